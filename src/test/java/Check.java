/** What the tests have in common: comparing answers, and writing and loading texts. */
final class Check {
    interface Call {
        long answer();
    }

    static final Class<IllegalStateException> STATE = IllegalStateException.class;
    static final Class<IllegalArgumentException> ARGUMENT = IllegalArgumentException.class;
    static final Class<IndexOutOfBoundsException> INDEX = IndexOutOfBoundsException.class;
    static final Class<java.util.NoSuchElementException> ELEMENT =
            java.util.NoSuchElementException.class;

    /** As many rules as a grammar may have, of four characters each. */
    static final String FOURTEEN =
            "A=a;A=b;A=c;A=d;A=e;A=f;A=g;A=h;A=i;A=j;A=k;A=l;A=m;A=n;";

    private static int done = 0;
    private static int wrong = 0;

    private Check() {
    }

    static void same(String what, long got, long want) {
        done++;
        if (got != want) {
            fault(what + " answered " + got + ", due is " + want);
        }
    }

    static void holds(String what, boolean got) {
        same(what, got ? 1 : 0, 1);
    }

    static void fails(String what, boolean got) {
        same(what, got ? 1 : 0, 0);
    }

    static void text(String what, String got, String want) {
        done++;
        if (!got.equals(want)) {
            fault(what + " answered " + got + ", due is " + want);
        }
    }

    static void refused(String what, Class<? extends RuntimeException> want, Call call) {
        done++;
        try {
            fault(what + " answered " + call.answer() + ", due is " + want.getName());
        } catch (RuntimeException e) {
            if (e.getClass() != want) {
                fault(what + " threw " + e.getClass().getName() + ", due is " + want.getName());
            }
        }
    }

    /** The answer as a text, or the name of what the call threw. */
    static String answer(Call call) {
        try {
            return String.valueOf(call.answer());
        } catch (RuntimeException e) {
            return "throws." + e.getClass().getSimpleName();
        }
    }

    /** The characters as write takes them, the first in the lowest byte. */
    static long packed(String characters) {
        long bytes = 0;
        for (int k = 0; k < characters.length(); k++) {
            bytes |= (long) characters.charAt(k) << (8 * k);
        }
        return bytes;
    }

    static void write(RankedTrees x, String text) {
        for (int k = 0; k < text.length(); k += 8) {
            String piece = text.substring(k, Math.min(k + 8, text.length()));
            holds("write " + piece, x.write(packed(piece)));
        }
    }

    static int load(RankedTrees x, String text) {
        x.wipe();
        write(x, text);
        return x.load();
    }

    /** What load answers when the text is all that a new object has. */
    static void loads(String text, int want) {
        same("load of " + text, load(new RankedTrees(), text), want);
    }

    static RankedTrees loaded(String text, String tokens) {
        RankedTrees x = new RankedTrees();
        same("load " + text, load(x, text), 0);
        row(x, tokens);
        return x;
    }

    static void row(RankedTrees x, String tokens) {
        x.drop();
        for (int k = 0; k < tokens.length(); k++) {
            same("token " + tokens.charAt(k), x.token(tokens.charAt(k)), k + 1);
        }
    }

    /** A tree of the row as its rules with their spans: "0(0,2) 1(0,1) 1(1,2)". */
    static String tree(RankedTrees x, int k) {
        StringBuilder all = new StringBuilder();
        int size = x.size(k);
        for (int i = 0; i < size; i++) {
            all.append(i == 0 ? "" : " ").append(x.at(k, i, 0));
            all.append('(').append(x.at(k, i, 1)).append(',').append(x.at(k, i, 2)).append(')');
        }
        return all.toString();
    }

    /** The row's trees up to the eighth, each as its weight and its rules, and no more of them. */
    static void ranks(RankedTrees x, String... want) {
        same("trees that are told", Math.min(x.trees(), 8), want.length);
        for (int k = 0; k < want.length; k++) {
            text("tree " + k, x.weight(k) + ": " + tree(x, k), want[k]);
        }
        int behind = want.length;
        Class<? extends RuntimeException> refusal = behind < 8 ? ELEMENT : ARGUMENT;
        refused("weight(" + behind + ")", refusal, () -> x.weight(behind));
    }

    /** Which rules of a good text are useful: a digit for each, 1 when it is. */
    static void useful(String text, String want) {
        RankedTrees x = loaded(text, "");
        StringBuilder got = new StringBuilder();
        int rules = x.rules();
        for (int k = 0; k < rules; k++) {
            got.append(x.rule(k, 5));
        }
        text("useful of " + text, got.toString(), want);
    }

    private static void fault(String text) {
        wrong++;
        if (wrong <= 40) {
            System.out.println(text);
        }
    }

    static void end() {
        System.out.println(wrong == 0 ? done + " answers are as due"
                : wrong + " of " + done + " answers are not as due");
        if (wrong != 0) {
            System.exit(1);
        }
    }
}
