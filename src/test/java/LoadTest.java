/** Promise 4: load. */
public final class LoadTest {
    public static void main(String[] args) {
        goodTexts();
        wrongForms();
        theSameRuleTwice();
        howMany();
        comesToItself();
        uselessCirclesAreFine();
        aFaultComesBeforeRound();
        nothingChangesOnAFault();
        textAndRowStay();
        eachFaultAtEachRule();
        theFirstFaultCounts();
        whereTheTextBreaksOff();
        noneAtAll();
        roundOnlyWhenAllElseIsGood();
        Check.end();
    }

    private static void goodTexts() {
        String[] good = {"A=a;", "E=z;", "C=ABC;", "A=aBc:0;", "A=a:9;", "A=a:99;", "A=a:999;",
            "A=a:000;", "B=a;A=b;B=aa;", "A=AAA;A=a;", "A=E;", Check.FOURTEEN};
        for (String text : good) {
            Check.loads(text, 0);
        }
    }

    private static void wrongForms() {
        String[] wrong = {"", ";", "A", "A=", "A=;", "A=a", "=a;", "a=a;", "F=a;", "@=a;", "A:a;",
            "A=F;", "A=aF;", "A=@;", "A=`;", "A={;", "A=1;", "A=aaaa;", "A=a:;", "A=a:", "A=a:1",
            "A=a:1000;", "A=a:0001;", "A=a:a;", "A=a:-1;", "A=a:1a;", "A=a::1;", "A=a: 1;",
            " A=a;", "A =a;", "A= a;", "A=a ;", "A==a;", "AA=a;", "A=a:/;", "A=:1;", "A=a:1:2;",
            "A=a,", "A=a:1/;", "A=a:1:;", "A=a:12+;"};
        for (String text : wrong) {
            Check.loads(text, -1);
            Check.loads("B=b;" + text, text.isEmpty() ? 0 : -2);
            Check.loads("B=b;C=c:3;" + text, text.isEmpty() ? 0 : -3);
            if (!text.isEmpty()) {
                Check.loads(text + "B=b;", -1);
            }
        }
        Check.loads("A=a; ", -2);
        Check.loads("A=a;;", -2);
        Check.loads("A=a;A=b", -2);
    }

    private static void theSameRuleTwice() {
        Check.loads("A=a;A=a;", -2);
        Check.loads("A=a:1;A=a:2;", -2);
        Check.loads("A=a;B=b;A=ab;B=b:7;A=", -4);
        Check.loads("A=aBc;B=b;A=aBc;", -3);
        Check.loads("A=a;B=a;A=aa;A=aaa;A=ab;A=ba;", 0);
        Check.loads("A=abc;A=abd;A=acc;A=bbc;B=abc;", 0);
        Check.loads("A=a;A=a", -2);
    }

    private static void howMany() {
        Check.loads(Check.FOURTEEN, 0);
        Check.loads(Check.FOURTEEN + "A=o;", -15);
        Check.loads(Check.FOURTEEN + "A=a;", -15);
        Check.loads(Check.FOURTEEN + "A=o;B", -15);
        Check.loads(Check.FOURTEEN + " ", -15);
        Check.loads(Check.FOURTEEN.substring(0, 55), -14);
        Check.loads(Check.FOURTEEN.substring(0, 52) + "A=a;", -14);
    }

    private static void comesToItself() {
        Check.same("ROUND", RankedTrees.ROUND, -1000);
        String[] round = {"A=A;A=a;", "A=a;A=A;", "A=B;B=A;A=a;", "A=B;B=C;C=A;C=c;",
            "A=B;B=C;C=D;D=E;E=A;E=e;", "A=aBc;B=B;B=b;", "A=BC;B=b;C=D;D=C;C=c;",
            "A=a;A=B;B=C;C=B;B=b;", "D=E;E=D;E=x;", "A=a;A=Ba;B=b;B=B:5;"};
        for (String text : round) {
            Check.loads(text, RankedTrees.ROUND);
        }
    }

    private static void uselessCirclesAreFine() {
        String[] fine = {"A=A;", "A=B;B=A;", "A=a;B=B;B=b;", "A=a;B=C;C=B;C=c;", "A=a;A=B;B=B;",
            "A=a;A=B;B=C;C=B;", "A=Ab;A=A;", "A=a;A=BC;B=B;B=b;", "A=B;A=a;B=AA;", "A=a;A=BD;B=A;",
            "A=B;A=C;B=C;C=c;", "A=a;A=aB;B=A;", "A=a;A=AA;A=AAA;"};
        for (String text : fine) {
            Check.loads(text, 0);
        }
    }

    private static void aFaultComesBeforeRound() {
        Check.loads("A=A;A=a;A=", -3);
        Check.loads("A=A;A=a;A=a;", -3);
        Check.loads("A=A;A=a;x", -3);
    }

    private static void nothingChangesOnAFault() {
        RankedTrees x = Check.loaded("B=BB:4;B=b:2;C=c;", "bb");
        String[] bad = {"A=a;A=c:9;A=xyz;A=AAAA;", "A=A;A=a;A=b;A=c;A=d;", "", "A=bb;A=bb;"};
        for (String text : bad) {
            Check.holds("a fault", Check.load(x, text) != 0);
            Check.same("rules", x.rules(), 3);
            Check.same("trees", x.trees(), 1);
            Check.same("weight", x.weight(0), 8);
            Check.text("tree", Check.tree(x, 0), "0(0,2) 1(0,1) 1(1,2)");
            Check.same("head", x.rule(0, 0), 'B');
            Check.same("symbol", x.rule(0, 2), 'B');
            Check.same("weight of a rule", x.rule(1, 4), 2);
            Check.same("useful", x.rule(0, 5), 1);
            Check.same("useless", x.rule(2, 5), 0);
            Check.same("token", x.token('b'), 3);
            Check.same("trees of a longer row", x.trees(), 2);
            Check.row(x, "bb");
        }
        RankedTrees none = new RankedTrees();
        Check.same("load", Check.load(none, "A=A;A=a;"), RankedTrees.ROUND);
        Check.same("rules", none.rules(), 0);
        Check.refused("trees", Check.STATE, none::trees);
    }

    private static void textAndRowStay() {
        RankedTrees x = Check.loaded("A=ab;", "ab");
        Check.same("load again", x.load(), 0);
        Check.same("trees", x.trees(), 1);
        Check.write(x, "A=AA:3");
        Check.same("load of a rule without ';'", x.load(), -2);
        Check.write(x, ";");
        Check.same("load of the longer text", x.load(), 0);
        Check.same("rules", x.rules(), 2);
        Check.same("the row stays", x.trees(), 1);
        Check.same("load of another text", Check.load(x, "A=aB:2;B=b:3;"), 0);
        Check.same("weight by the new grammar", x.weight(0), 5);
        Check.same("drop", x.drop(), 2);
    }

    /** The rules before the k-th one, from 1. */
    private static String before(int k) {
        return Check.FOURTEEN.substring(0, 4 * (k - 1));
    }

    // "the k-th one is not, is missing its ';', is the same as one before, or is the 15th"
    private static void eachFaultAtEachRule() {
        String[] notAsTheyMustBe = {";", "a=a;", "F=a;", "A=;", "A=zzzz;", "A=z:;", "A=z:1000;",
            "A=Z;", " A=z;", "A=z ;", "A-z;", "A=z:-1;"};
        for (int k = 1; k <= 14; k++) {
            for (String rule : notAsTheyMustBe) {
                Check.loads(before(k) + rule, -k);
                Check.loads(before(k) + rule + "B=b;", -k);
            }
            Check.loads(before(k) + "A=z", -k);
            Check.loads(before(k) + "A=zB=b;", -k);
            Check.loads(before(k) + "A=z:55", -k);
            Check.loads(before(k) + "A=z;", 0);
            if (k > 1) {
                Check.loads(before(k) + "A=a;B=b;", -k);
                Check.loads(before(k) + before(k).substring(4 * (k - 2)), -k);
            }
        }
        Check.loads(before(15), 0);
        String[] the15th = {"A=z;", "A=a;", "A=z", "z", ";", " ", "A=z;A=y;", "A=z:999;", "A=A;"};
        for (String rule : the15th) {
            Check.loads(before(15) + rule, -15);
        }
    }

    private static void theFirstFaultCounts() {
        Check.loads("A=;B=;", -1);
        Check.loads("A=a;B=;C=;", -2);
        Check.loads("A=a;A=a;B=;", -2);
        Check.loads("A=a;B=;A=a;", -2);
        Check.loads("A=a;B=b;A=a;C=c", -3);
        Check.loads(before(14) + "A=a;" + "A=z;A=y;", -14);
        Check.loads(before(7) + "x" + before(15), -7);
        Check.loads(before(15) + before(15), -15);
    }

    // A rule that breaks off anywhere is missing its ';'.
    private static void whereTheTextBreaksOff() {
        String rule = "C=abD:120;";
        for (int end = 1; end <= rule.length(); end++) {
            boolean whole = end == rule.length();
            Check.loads(rule.substring(0, end), whole ? 0 : -1);
            Check.loads("A=a;" + rule.substring(0, end), whole ? 0 : -2);
            Check.loads(before(14) + rule.substring(0, end), whole ? 0 : -14);
        }
    }

    // "(-1 when there is none at all)"
    private static void noneAtAll() {
        RankedTrees x = new RankedTrees();
        Check.same("load of no text", x.load(), -1);
        Check.holds("write of none", x.write(0));
        Check.same("load of none written", x.load(), -1);
        Check.same("rules", x.rules(), 0);
        Check.write(x, "A=a;");
        Check.same("load of one rule", x.load(), 0);
        x.wipe();
        Check.same("load of a wiped text", x.load(), -1);
        Check.same("the rule stays", x.rules(), 1);
    }

    // "ROUND when all rules are as they must be, but a letter comes to itself"
    private static void roundOnlyWhenAllElseIsGood() {
        String round = "A=B;B=A;A=a;";
        Check.loads(round, RankedTrees.ROUND);
        Check.loads(round + "C=c;", RankedTrees.ROUND);
        Check.loads(round + "C=c", -4);
        Check.loads(round + "B=A;", -4);
        Check.loads(round + " ", -4);
        String eleven = "C=a;C=b;C=c;C=d;C=e;C=f;C=g;C=h;C=i;C=j;C=k;";
        Check.loads(round + eleven, RankedTrees.ROUND);
        Check.loads(round + eleven + "C=l;", -15);
        Check.loads(before(14) + "A=A;", RankedTrees.ROUND);
        Check.loads(before(14) + "B=B;", 0);
        // More rules never open a ring.
        Check.loads(round + "B=b;A=AA;", RankedTrees.ROUND);
    }
}
