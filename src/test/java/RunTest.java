/** All promises: runs of 512 calls on one object, each answer against that of a Follower. */
public final class RunTest {
    private static final int RUNS = 300;
    private static final int CALLS = 512;

    private final Draw draw;
    private final RankedTrees x = new RankedTrees();
    private final Follower follower = new Follower();
    private final StringBuilder story = new StringBuilder();
    private int left = CALLS;

    private RunTest(long seed) {
        draw = new Draw(seed);
    }

    public static void main(String[] args) {
        for (int run = 1; run <= RUNS; run++) {
            new RunTest(run).go();
        }
        Check.end();
    }

    private void go() {
        while (left > 0) {
            int kind = draw.below(100);
            if (kind < 2) {
                newText();
            } else if (kind < 12) {
                change();
            } else if (kind < 17) {
                newRow();
            } else {
                ask(kind % 7);
            }
        }
    }

    private void both(String call, Check.Call ours, Check.Call due) {
        if (left == 0) {
            return;
        }
        left--;
        story.append(call).append(' ');
        String got = Check.answer(ours);
        String want = Check.answer(due);
        Check.text(got.equals(want) ? call : story.toString(), got, want);
    }

    private void newText() {
        String text = draw.oneIn(3) ? draw.text() : draw.richText();
        wipe();
        for (int k = 0; k < text.length(); k += 8) {
            write(Check.packed(text.substring(k, Math.min(k + 8, text.length()))));
        }
        load();
    }

    private void newRow() {
        both("drop()", x::drop, follower::drop);
        String row = draw.row(1 + draw.below(6));
        // Few rows have trees: of several the first that has some is taken.
        for (int more = 0; more < 9 && follower.treesOf(row) == 0; more++) {
            row = draw.row(1 + draw.below(6));
        }
        for (char c : row.toCharArray()) {
            token(c);
        }
    }

    private void change() {
        int kind = draw.below(12);
        if (kind == 0) {
            write(draw.bytes());
        } else if (kind == 1) {
            write(Check.packed("A=" + (char) ('a' + draw.below(26)) + ";"));
        } else if (kind == 2) {
            wipe();
        } else if (kind < 6) {
            load();
        } else if (kind < 8) {
            token(draw.near('a', 'z'));
        } else {
            token((char) ('a' + draw.below(2)));
        }
    }

    private void write(long bytes) {
        both("write(" + bytes + ")", () -> x.write(bytes) ? 1 : 0,
                () -> follower.write(bytes) ? 1 : 0);
    }

    private void wipe() {
        both("wipe()", () -> {
            x.wipe();
            return 0;
        }, () -> {
            follower.wipe();
            return 0;
        });
    }

    private void load() {
        both("load()", x::load, follower::load);
    }

    private void token(char c) {
        both("token(" + (int) c + ")", () -> x.token(c), () -> follower.token(c));
    }

    private void ask(int kind) {
        int k = draw.near(0, draw.oneIn(2) ? 1 : 7);
        if (kind == 0) {
            both("rules()", x::rules, follower::rules);
        } else if (kind == 1) {
            int rule = draw.near(0, Math.max(follower.rules() - 1, 0));
            int what = draw.near(0, 5);
            both("rule(" + rule + ", " + what + ")", () -> x.rule(rule, what),
                    () -> follower.rule(rule, what));
        } else if (kind == 2) {
            both("trees()", x::trees, follower::trees);
        } else if (kind == 3) {
            askWays();
        } else if (kind == 4) {
            both("weight(" + k + ")", () -> x.weight(k), () -> follower.weight(k));
        } else if (kind == 5) {
            both("size(" + k + ")", () -> x.size(k), () -> follower.size(k));
        } else {
            askAt(k);
        }
    }

    private void askWays() {
        char letter = draw.near('A', 'E');
        int from = draw.near(0, draw.oneIn(2) ? 1 : 5);
        int to = draw.near(1, 6);
        both("ways(" + letter + ", " + from + ", " + to + ")", () -> x.ways(letter, from, to),
                () -> follower.ways(letter, from, to));
    }

    private void askAt(int k) {
        int i = draw.near(0, draw.oneIn(2) ? 3 : 12);
        int what = draw.near(0, 2);
        both("at(" + k + ", " + i + ", " + what + ")", () -> x.at(k, i, what),
                () -> follower.at(k, i, what));
    }
}
