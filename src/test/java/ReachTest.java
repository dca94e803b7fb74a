import com.sun.management.ThreadMXBean;
import java.lang.management.ManagementFactory;

/** "What it is" and "Not promised": an object is good for 512 calls, the dearest ones too. */
public final class ReachTest {
    private static final int CALLS = 512;
    // Each span has trees by the million, and each cell of a chart is in use.
    private static final String DEAR =
            "A=B;A=C;A=D;A=E;B=C;B=D;B=E;C=D;C=E;D=E;E=AA;E=AAA;E=a;E=b;";
    private static final long MANY = 454729662464L;
    // Some 600,000 objects and 7.3 million fields and elements, of which most are ints.
    private static final long ROOM = 600_000L * 16 + 7_300_000L * 4;

    private static final String[] QUESTIONS = {"write", "load", "rules", "rule", "token", "drop",
        "trees", "ways", "weight", "size", "at", "refused"};
    private static final String[] ANSWERS = {"1", "0", "3", "66", "4", "3", "2", "1", "7", "5", "2",
        "throws.IllegalArgumentException"};

    public static void main(String[] args) {
        the512thCall();
        aNewRowAgainAndAgain();
        aNewGrammarAgainAndAgain();
        theSameQuestionAgainAndAgain();
        refusedAgainAndAgain();
        manyObjectsSideBySide();
        roomForOneRun();
        Check.end();
    }

    private static String ask(RankedTrees x, String question) {
        return Check.answer(() -> switch (question) {
            case "write" -> x.write(Check.packed("C=c;")) ? 1 : 0;
            case "load" -> x.load();
            case "rules" -> x.rules();
            case "rule" -> x.rule(2, 1);
            case "token" -> x.token('z');
            case "drop" -> x.drop();
            case "trees" -> x.trees();
            case "ways" -> x.ways('A', 1, 3);
            case "weight" -> x.weight(1);
            case "size" -> x.size(0);
            case "at" -> x.at(0, 1, 2);
            default -> x.weight(8);
        });
    }

    // "used for at most 512 calls after it has been made": the last of them, of each kind
    private static void the512thCall() {
        for (int q = 0; q < QUESTIONS.length; q++) {
            RankedTrees x = new RankedTrees();
            x.write(Check.packed("A=AA:2;"));
            x.write(Check.packed("A=a;"));
            x.write(Check.packed("A=B:0;"));
            x.load();
            int calls = 4;
            for (; calls < CALLS - 7; calls += 2) {
                x.token('b');
                x.drop();
            }
            for (; calls < CALLS - 4; calls++) {
                x.rules();
            }
            for (int k = 0; k < 3; k++) {
                x.token('a');
            }
            Check.text("call 512, " + QUESTIONS[q], ask(x, QUESTIONS[q]), ANSWERS[q]);
        }
    }

    private static void aNewRowAgainAndAgain() {
        RankedTrees x = new RankedTrees();
        Check.same("load", Check.load(x, DEAR), 0);
        for (int calls = 1 + DEAR.length() / 8 + 2; calls + 9 <= CALLS; calls += 9) {
            Check.row(x, "abaabb");
            Check.same("trees", x.trees(), MANY);
            Check.same("weight", x.weight(7), 18);
        }
    }

    private static void aNewGrammarAgainAndAgain() {
        RankedTrees x = new RankedTrees();
        Check.write(x, DEAR);
        Check.row(x, "abaabb");
        int calls = DEAR.length() / 8 + 1 + 7;
        for (; calls + 2 <= CALLS; calls += 2) {
            Check.same("load", x.load(), 0);
            Check.same("trees", x.trees(), MANY);
        }
    }

    private static void theSameQuestionAgainAndAgain() {
        for (int q = 6; q < QUESTIONS.length; q++) {
            RankedTrees x = Check.loaded("A=AA:2;A=a;A=B:0;", "aaa");
            for (int calls = 9; calls < CALLS; calls++) {
                Check.text("again " + QUESTIONS[q], ask(x, QUESTIONS[q]), ANSWERS[q]);
            }
        }
    }

    private static void refusedAgainAndAgain() {
        RankedTrees x = new RankedTrees();
        for (int calls = 0; calls < CALLS - 8; calls++) {
            Check.refused("token", Check.ARGUMENT, () -> x.token('A'));
        }
        Check.same("row", Portrait.roomOfRow(x), 6);
        RankedTrees y = new RankedTrees();
        for (int calls = 0; calls < CALLS - 5; calls++) {
            Check.fails("write", y.write(-1));
        }
        Check.same("load of no text", y.load(), -1);
        Check.write(y, "A=a;");
        Check.same("load", y.load(), 0);
    }

    // One object's calls do not touch another, though both are of the same class.
    private static void manyObjectsSideBySide() {
        RankedTrees[] all = new RankedTrees[26];
        for (int k = 0; k < 26; k++) {
            all[k] = Check.loaded("A=" + (char) ('a' + k) + ":" + k + ";A=AA;", "");
        }
        for (int k = 0; k < 26; k++) {
            Check.row(all[k], String.valueOf((char) ('a' + k)).repeat(1 + k % 6));
        }
        long[] catalan = {1, 1, 2, 5, 14, 42};
        for (int k = 0; k < 26; k++) {
            int tokens = 1 + k % 6;
            Check.same("trees of object " + k, all[k].trees(), catalan[tokens - 1]);
            Check.same("weight of object " + k, all[k].weight(0), tokens * k + tokens - 1);
        }
    }

    private static void roomForOneRun() {
        // Only some machines count what a thread makes; elsewhere there is nothing to compare.
        if (!(ManagementFactory.getThreadMXBean() instanceof ThreadMXBean bean)) {
            return;
        }
        long thread = Thread.currentThread().getId();
        long before = bean.getThreadAllocatedBytes(thread);
        RankedTrees x = new RankedTrees();
        for (int k = 0; k < DEAR.length(); k += 8) {
            x.write(Check.packed(DEAR.substring(k, Math.min(k + 8, DEAR.length()))));
        }
        for (int round = 0; round < 50; round++) {
            x.load();
            x.drop();
            for (int k = 0; k < 6; k++) {
                x.token('a');
            }
            x.trees();
            x.at(7, 17, 2);
        }
        long made = bean.getThreadAllocatedBytes(thread) - before;
        Check.holds("the run has room: " + made + " bytes", made < ROOM);
    }
}
