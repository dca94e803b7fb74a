/** Promise 4: load. */
public final class LoadTest {
    private static final String FOURTEEN =
            "A=a;A=b;A=c;A=d;A=e;A=f;A=g;A=h;A=i;A=j;A=k;A=l;A=m;A=n;";

    public static void main(String[] args) {
        goodTexts();
        wrongForms();
        theSameRuleTwice();
        howMany();
        comesToItself();
        uselessCirclesAreFine();
        aFaultComesBeforeRound();
        nothingChangesOnAFault();
        textAndRowStay();
        Check.end();
    }

    private static void answers(String text, int want) {
        Check.same("load of " + text, Check.load(new RankedTrees(), text), want);
    }

    private static void goodTexts() {
        String[] good = {"A=a;", "E=z;", "C=ABC;", "A=aBc:0;", "A=a:9;", "A=a:99;", "A=a:999;",
            "A=a:000;", "B=a;A=b;B=aa;", "A=AAA;A=a;", "A=E;", FOURTEEN};
        for (String text : good) {
            answers(text, 0);
        }
    }

    private static void wrongForms() {
        String[] wrong = {"", ";", "A", "A=", "A=;", "A=a", "=a;", "a=a;", "F=a;", "@=a;", "A:a;",
            "A=F;", "A=aF;", "A=@;", "A=`;", "A={;", "A=1;", "A=aaaa;", "A=a:;", "A=a:", "A=a:1",
            "A=a:1000;", "A=a:0001;", "A=a:a;", "A=a:-1;", "A=a:1a;", "A=a::1;", "A=a: 1;",
            " A=a;", "A =a;", "A= a;", "A=a ;", "A==a;", "AA=a;", "A=a:/;", "A=:1;", "A=a:1:2;",
            "A=a,", "A=a:1/;", "A=a:1:;", "A=a:12+;"};
        for (String text : wrong) {
            answers(text, -1);
            answers("B=b;" + text, text.isEmpty() ? 0 : -2);
            answers("B=b;C=c:3;" + text, text.isEmpty() ? 0 : -3);
            if (!text.isEmpty()) {
                answers(text + "B=b;", -1);
            }
        }
        answers("A=a; ", -2);
        answers("A=a;;", -2);
        answers("A=a;A=b", -2);
    }

    private static void theSameRuleTwice() {
        answers("A=a;A=a;", -2);
        answers("A=a:1;A=a:2;", -2);
        answers("A=a;B=b;A=ab;B=b:7;A=", -4);
        answers("A=aBc;B=b;A=aBc;", -3);
        answers("A=a;B=a;A=aa;A=aaa;A=ab;A=ba;", 0);
        answers("A=abc;A=abd;A=acc;A=bbc;B=abc;", 0);
        answers("A=a;A=a", -2);
    }

    private static void howMany() {
        answers(FOURTEEN, 0);
        answers(FOURTEEN + "A=o;", -15);
        answers(FOURTEEN + "A=a;", -15);
        answers(FOURTEEN + "A=o;B", -15);
        answers(FOURTEEN + " ", -15);
        answers(FOURTEEN.substring(0, 55), -14);
        answers(FOURTEEN.substring(0, 52) + "A=a;", -14);
    }

    private static void comesToItself() {
        Check.same("ROUND", RankedTrees.ROUND, -1000);
        String[] round = {"A=A;A=a;", "A=a;A=A;", "A=B;B=A;A=a;", "A=B;B=C;C=A;C=c;",
            "A=B;B=C;C=D;D=E;E=A;E=e;", "A=aBc;B=B;B=b;", "A=BC;B=b;C=D;D=C;C=c;",
            "A=a;A=B;B=C;C=B;B=b;", "D=E;E=D;E=x;", "A=a;A=Ba;B=b;B=B:5;"};
        for (String text : round) {
            answers(text, RankedTrees.ROUND);
        }
    }

    private static void uselessCirclesAreFine() {
        String[] fine = {"A=A;", "A=B;B=A;", "A=a;B=B;B=b;", "A=a;B=C;C=B;C=c;", "A=a;A=B;B=B;",
            "A=a;A=B;B=C;C=B;", "A=Ab;A=A;", "A=a;A=BC;B=B;B=b;", "A=B;A=a;B=AA;", "A=a;A=BD;B=A;",
            "A=B;A=C;B=C;C=c;", "A=a;A=aB;B=A;", "A=a;A=AA;A=AAA;"};
        for (String text : fine) {
            answers(text, 0);
        }
    }

    private static void aFaultComesBeforeRound() {
        answers("A=A;A=a;A=", -3);
        answers("A=A;A=a;A=a;", -3);
        answers("A=A;A=a;x", -3);
    }

    private static void nothingChangesOnAFault() {
        RankedTrees x = Check.loaded("B=BB:4;B=b:2;C=c;", "bb");
        String[] bad = {"A=a;A=c:9;A=xyz;A=AAAA;", "A=A;A=a;A=b;A=c;A=d;", "", "A=bb;A=bb;"};
        for (String text : bad) {
            Check.holds("a fault", Check.load(x, text) != 0);
            Check.same("rules", x.rules(), 3);
            Check.same("trees", x.trees(), 1);
            Check.same("weight", x.weight(0), 8);
            Check.text("tree", Check.tree(x, 0), "0(0,2) 1(0,1) 1(1,2)");
            Check.same("head", x.rule(0, 0), 'B');
            Check.same("symbol", x.rule(0, 2), 'B');
            Check.same("weight of a rule", x.rule(1, 4), 2);
            Check.same("useful", x.rule(0, 5), 1);
            Check.same("useless", x.rule(2, 5), 0);
            Check.same("token", x.token('b'), 3);
            Check.same("trees of a longer row", x.trees(), 2);
            Check.row(x, "bb");
        }
        RankedTrees none = new RankedTrees();
        Check.same("load", Check.load(none, "A=A;A=a;"), RankedTrees.ROUND);
        Check.same("rules", none.rules(), 0);
        Check.refused("trees", Check.STATE, none::trees);
    }

    private static void textAndRowStay() {
        RankedTrees x = Check.loaded("A=ab;", "ab");
        Check.same("load again", x.load(), 0);
        Check.same("trees", x.trees(), 1);
        Check.write(x, "A=AA:3");
        Check.same("load of a rule without ';'", x.load(), -2);
        Check.write(x, ";");
        Check.same("load of the longer text", x.load(), 0);
        Check.same("rules", x.rules(), 2);
        Check.same("the row stays", x.trees(), 1);
        Check.same("load of another text", Check.load(x, "A=aB:2;B=b:3;"), 0);
        Check.same("weight by the new grammar", x.weight(0), 5);
        Check.same("drop", x.drop(), 2);
    }
}
