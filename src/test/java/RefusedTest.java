import java.util.function.Consumer;
import java.util.function.ToLongFunction;

/** A call that is refused, or does not succeed, changes nothing, as all later calls show. */
public final class RefusedTest {
    /** A way to make an object, and what makes its text good when it is written behind it. */
    private record State(String name, Consumer<RankedTrees> making, String behind) {
        RankedTrees made() {
            RankedTrees x = new RankedTrees();
            making.accept(x);
            return x;
        }
    }

    private static final String GRAMMAR = "A=AB:2;A=a:3;B=b;B=C:0;C=b;D=d;A=BBB:004;";
    private static final State NEW = new State("new", x -> { }, "A=a;");
    private static final State UNLOADED = new State("unloaded", x -> {
        Check.write(x, "B=aCb:7;B=ab;C=a");
        Check.row(x, "ab");
    }, ";");
    private static final State FULL = new State("full", x -> {
        Check.load(x, "B=BD:2;B=e;D=b;" + Check.FOURTEEN.substring(12));
        Check.row(x, "ebbbbb");
        x.wipe();
        Check.write(x, Check.FOURTEEN + "*".repeat(240 - Check.FOURTEEN.length()));
    }, "");

    public static void main(String[] args) {
        inEveryState(NEW);
        inEveryState(UNLOADED);
        inEveryState(FULL);
        inEveryState(ranked("C=CC;C=b;C=a"));
        withoutAGrammar(NEW);
        withoutAGrammar(UNLOADED);
        withAGrammar(FULL, 6);
        withAGrammar(ranked("C=CC;C=b;C=a"), 3);
        whereAllIsFull();
        loadsThatFail();
        emptyRows();
        askingChangesNothing();
        Check.end();
    }

    /** An object with trees to rank, and another text than that of its grammar. */
    private static State ranked(String text) {
        return new State("ranked, with " + text, x -> {
            Check.load(x, GRAMMAR);
            Check.row(x, "abb");
            x.wipe();
            Check.write(x, text);
        }, ";");
    }

    /** The call's answer, and that objects with it and without it are the same from then on. */
    private static void harmless(State state, String want, String what,
            ToLongFunction<RankedTrees> call) {
        RankedTrees seen = state.made();
        String name = what + " (" + state.name() + ")";
        Check.text(name, Check.answer(() -> call.applyAsLong(seen)), want);
        Check.text("behind " + name, Portrait.seen(seen), Portrait.seen(state.made()));
        RankedTrees spent = state.made();
        Check.text(name, Check.answer(() -> call.applyAsLong(spent)), want);
        Check.text("all behind " + name, Portrait.spent(spent, state.behind()),
                Portrait.spent(state.made(), state.behind()));
    }

    private static void state(State state, String what, ToLongFunction<RankedTrees> call) {
        harmless(state, "throws.IllegalStateException", what, call);
    }

    private static void argument(State state, String what, ToLongFunction<RankedTrees> call) {
        harmless(state, "throws.IllegalArgumentException", what, call);
    }

    private static void index(State state, String what, ToLongFunction<RankedTrees> call) {
        harmless(state, "throws.IndexOutOfBoundsException", what, call);
    }

    private static void element(State state, String what, ToLongFunction<RankedTrees> call) {
        harmless(state, "throws.NoSuchElementException", what, call);
    }

    private static void notWritten(State state, String characters) {
        long bytes = Check.packed(characters);
        harmless(state, "0", "write of " + bytes, x -> x.write(bytes) ? 1 : 0);
    }

    private static void inEveryState(State state) {
        String[] bad = {"\u001f", "\u007f", ";\u001f", "\u007f;", "C=c;D=d\u0001",
            "\u0080;C=c;\0\0", ";\0\0\u00ff", "\n"};
        for (String characters : bad) {
            notWritten(state, characters);
        }
        for (char c : new char[] {'`', '{', 'A', 'Z', 0, ' ', 'a' + 256, 65535}) {
            argument(state, "token " + (int) c, x -> x.token(c));
        }
        for (int k : new int[] {-1, 14, 15, Integer.MIN_VALUE, Integer.MAX_VALUE}) {
            index(state, "rule(" + k + ", 0)", x -> x.rule(k, 0));
            index(state, "rule(" + k + ", 6)", x -> x.rule(k, 6));
        }
        index(state, "rule(rules, 5)", x -> x.rule(x.rules(), 5));
    }

    private static void withoutAGrammar(State state) {
        state(state, "trees", RankedTrees::trees);
        state(state, "ways", x -> x.ways('A', 0, 1));
        state(state, "ways of no letter", x -> x.ways('F', 0, 1));
        state(state, "ways of no span", x -> x.ways('A', 1, 1));
        for (int k : new int[] {-1, 0, 7, 8}) {
            state(state, "weight(" + k + ")", x -> x.weight(k));
            state(state, "size(" + k + ")", x -> x.size(k));
            state(state, "at(" + k + ", 0, 0)", x -> x.at(k, 0, 0));
            state(state, "at(0, " + k + ", 0)", x -> x.at(0, k, 0));
            state(state, "at(0, 0, " + k + ")", x -> x.at(0, 0, k));
        }
        harmless(state, state == NEW ? "-1" : "-3", "load", RankedTrees::load);
    }

    private static void withAGrammar(State state, int tokens) {
        argument(state, "rule(0, -1)", x -> x.rule(0, -1));
        argument(state, "rule(0, 6)", x -> x.rule(0, 6));
        for (char letter : new char[] {'@', 'F', 'a', 0, 'A' + 256}) {
            argument(state, "ways of " + (int) letter, x -> x.ways(letter, 0, 1));
        }
        int[][] spans = {{-1, 1}, {0, 0}, {1, 1}, {2, 1}, {0, tokens + 1}, {tokens, tokens},
            {tokens, tokens + 1}, {Integer.MIN_VALUE, Integer.MAX_VALUE}};
        for (int[] span : spans) {
            index(state, "ways of (" + span[0] + ", " + span[1] + ")",
                    x -> x.ways('B', span[0], span[1]));
        }
        for (int k : new int[] {-1, 8}) {
            argument(state, "weight(" + k + ")", x -> x.weight(k));
            argument(state, "size(" + k + ")", x -> x.size(k));
            argument(state, "at(" + k + ", 0, 0)", x -> x.at(k, 0, 0));
        }
        argument(state, "at(0, 0, -1)", x -> x.at(0, 0, -1));
        argument(state, "at(0, 0, 3)", x -> x.at(0, 0, 3));
        element(state, "weight(7)", x -> x.weight(7));
        element(state, "size(7)", x -> x.size(7));
        element(state, "at(7, 0, 0)", x -> x.at(7, 0, 0));
        element(state, "weight of the first that is not", x -> x.weight((int) x.trees()));
    }

    private static void whereAllIsFull() {
        state(FULL, "a 7th token", x -> x.token('b'));
        argument(FULL, "a 7th that is no token", x -> x.token('B'));
        notWritten(FULL, "x");
        notWritten(FULL, "\0\0\0\0\0\0\0;");
        notWritten(FULL, "A=a;B=b;");
        harmless(FULL, "1", "write of none", x -> x.write(0) ? 1 : 0);
        harmless(FULL, "-15", "load", RankedTrees::load);
        State oneLeft = new State("one left", x -> {
            Check.load(x, GRAMMAR);
            x.wipe();
            Check.write(x, "A=b;".repeat(59) + "A=b");
            Check.row(x, "abbbb");
        }, ";");
        notWritten(oneLeft, ";;");
        notWritten(oneLeft, ";\0\0\0\0\0\0;");
        State rankedTree = ranked("");
        index(rankedTree, "at(0, 5, 0)", x -> x.at(0, x.size(0), 0));
        index(rankedTree, "at(0, -1, 0)", x -> x.at(0, -1, 0));
    }

    // "Otherwise nothing changes"
    private static void loadsThatFail() {
        String[] texts = {"", "B=b", "B=b;C", "B=b;C=c;B=b", "B=b;C=c;B=b:9;C", "x=y",
            Check.FOURTEEN + "B=b;C=c", "B=b;b", "D=bbb:77;D=abb:5;D=;D=a"};
        String[] want = {"-1", "-1", "-2", "-3", "-3", "-1", "-15", "-2", "-3"};
        for (int k = 0; k < texts.length; k++) {
            harmless(ranked(texts[k]), want[k], "load of " + texts[k], RankedTrees::load);
        }
        harmless(ranked("D=E;E=D;E=abb;"), "-1000", "load that comes round", RankedTrees::load);
        harmless(ranked("A=A;A=abb;A=b;"), "-1000", "load that comes round", RankedTrees::load);
        State noGrammar = new State("round, no grammar", x -> {
            Check.write(x, "A=A;A=abb;");
            Check.row(x, "abb");
        }, "B");
        harmless(noGrammar, "-1000", "load that comes round", RankedTrees::load);
    }

    private static void emptyRows() {
        State empty = new State("an empty row", x -> Check.load(x, GRAMMAR), "A=ab;");
        harmless(empty, "0", "trees", RankedTrees::trees);
        harmless(empty, "0", "drop", RankedTrees::drop);
        element(empty, "weight(0)", x -> x.weight(0));
        element(empty, "size(0)", x -> x.size(0));
        element(empty, "at(0, 0, 0)", x -> x.at(0, 0, 0));
        index(empty, "ways of (0, 0)", x -> x.ways('A', 0, 0));
        index(empty, "ways of (0, 1)", x -> x.ways('A', 0, 1));
    }

    private static void askingChangesNothing() {
        State state = ranked("C=CC;C=b;C=a");
        harmless(state, "7", "rules", RankedTrees::rules);
        harmless(state, "4", "rule", x -> x.rule(6, 4));
        harmless(state, "4", "trees", RankedTrees::trees);
        harmless(state, "1", "ways", x -> x.ways('A', 0, 1));
        harmless(state, "9", "weight", x -> x.weight(0));
        harmless(state, "5", "size", x -> x.size(0));
        harmless(state, "2", "at", x -> x.at(0, 1, 2));
        harmless(state, "1", "write of none", x -> x.write(0) ? 1 : 0);
    }
}
