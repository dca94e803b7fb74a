/** Promises 7 and 8: token and drop. */
public final class RowTest {
    public static void main(String[] args) {
        tokenCounts();
        wrongTokens();
        aFullRow();
        dropEmpties();
        theRowIsRead();
        everyChar();
        eachLength();
        aRefusedTokenIsNotPut();
        Check.end();
    }

    private static void tokenCounts() {
        RankedTrees x = new RankedTrees();
        for (int k = 1; k <= 6; k++) {
            Check.same("token " + k, x.token(k % 2 == 0 ? 'a' : 'z'), k);
        }
        Check.same("drop", x.drop(), 6);
        for (char c = 'a'; c <= 'z'; c++) {
            Check.same("token " + c, x.token(c), 1);
            Check.same("drop", x.drop(), 1);
        }
    }

    private static void wrongTokens() {
        RankedTrees x = new RankedTrees();
        char[] wrong = {'`', '{', 'A', 'E', 'Z', '0', ' ', ';', 0, 255, 'a' + 256, 65535};
        for (char c : wrong) {
            Check.refused("token " + (int) c, Check.ARGUMENT, () -> x.token(c));
        }
        Check.same("no wrong token is put", x.drop(), 0);
    }

    private static void aFullRow() {
        RankedTrees x = Check.loaded("A=aA;A=b;", "aaaaab");
        Check.refused("a 7th token", Check.STATE, () -> x.token('a'));
        Check.refused("a 7th token that is none", Check.ARGUMENT, () -> x.token('A'));
        Check.same("the row is as it was", x.trees(), 1);
        Check.same("drop", x.drop(), 6);
        Check.same("token", x.token('b'), 1);
    }

    private static void dropEmpties() {
        RankedTrees x = Check.loaded("A=a;A=AA;A=bb;", "aaa");
        Check.same("trees", x.trees(), 2);
        Check.same("drop", x.drop(), 3);
        Check.same("drop of an empty row", x.drop(), 0);
        Check.same("trees of an empty row", x.trees(), 0);
        Check.same("the grammar stays", x.rules(), 3);
        Check.same("the text stays", x.load(), 0);
        Check.row(x, "bb");
        Check.same("trees of the new row", x.trees(), 1);
        Check.text("tree of the new row", Check.tree(x, 0), "2(0,2)");
    }

    private static void theRowIsRead() {
        RankedTrees x = Check.loaded("A=abc;A=acb;A=b;", "");
        Check.row(x, "abc");
        Check.same("abc", x.at(0, 0, 0), 0);
        Check.row(x, "acb");
        Check.same("acb", x.at(0, 0, 0), 1);
        Check.row(x, "b");
        Check.same("b", x.at(0, 0, 0), 2);
        Check.row(x, "bca");
        Check.same("bca", x.trees(), 0);
    }

    // "c is not a .. z"
    private static void everyChar() {
        RankedTrees x = new RankedTrees();
        for (int code = 0; code <= 65535; code++) {
            if (code % 256 == 0) {
                x = new RankedTrees();
            }
            RankedTrees now = x;
            char c = (char) code;
            if (code >= 97 && code <= 122) {
                Check.same("token " + code, now.token(c), 1);
                Check.same("drop", now.drop(), 1);
            } else {
                Check.refused("token " + code, Check.ARGUMENT, () -> now.token(c));
            }
        }
    }

    // "how many it has then", "how many tokens it had", "6 are there"
    private static void eachLength() {
        RankedTrees x = new RankedTrees();
        for (int length = 0; length <= 6; length++) {
            for (int k = 1; k <= length; k++) {
                Check.same("token", x.token('q'), k);
            }
            if (length == 6) {
                Check.refused("a 7th", Check.STATE, () -> x.token('q'));
                Check.refused("a 7th again", Check.STATE, () -> x.token('a'));
            }
            Check.same("drop of " + length, x.drop(), length);
            Check.same("drop of none", x.drop(), 0);
            Check.same("room", Portrait.roomOfRow(x), 6);
            Check.same("drop of all", x.drop(), 6);
        }
    }

    private static void aRefusedTokenIsNotPut() {
        RankedTrees x = Check.loaded("A=aA;A=b;", "");
        for (int k = 1; k <= 6; k++) {
            Check.refused("token {", Check.ARGUMENT, () -> x.token('{'));
            Check.same("token", x.token(k == 6 ? 'b' : 'a'), k);
            Check.refused("token `", Check.ARGUMENT, () -> x.token('`'));
            Check.same("trees", x.trees(), k == 6 ? 1 : 0);
        }
        Check.refused("a 7th", Check.STATE, () -> x.token('b'));
        Check.refused("a 7th that is no token", Check.ARGUMENT, () -> x.token('B'));
        Check.same("trees", x.trees(), 1);
        Check.same("size", x.size(0), 6);
    }
}
