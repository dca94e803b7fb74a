import java.util.function.IntUnaryOperator;

/** The section "Terms" up to the useful rules: where a rule, a body, a weight and a text end. */
public final class TermsTest {
    public static void main(String[] args) {
        atMost14Rules();
        heads();
        equalsSigns();
        oneToThreeSymbols();
        symbols();
        weights0To999();
        oneToThreeDigits();
        weight1WhenNotTold();
        theStart();
        aSemicolonBehindEach();
        noTwoTheSame();
        theLongestText();
        usefulBeyondAnyRow();
        usefulOnBothSides();
        aLetterComesToItself();
        noLetterComesToItself();
        Check.same("ROUND", RankedTrees.ROUND, -1000);
        Check.end();
    }

    private static boolean isLetter(int code) {
        return "ABCDE".indexOf(code) >= 0;
    }

    private static boolean isSymbol(int code) {
        return isLetter(code) || "abcdefghijklmnopqrstuvwxyz".indexOf(code) >= 0;
    }

    private static boolean isDigit(int code) {
        return "0123456789".indexOf(code) >= 0;
    }

    /** Puts each character that a text may have into a gap, and tells what load answers then. */
    private static void inTheGap(String before, String behind, IntUnaryOperator want) {
        for (int code = 32; code <= 126; code++) {
            Check.loads(before + (char) code + behind, want.applyAsInt(code));
        }
    }

    // "a row of at most 14 RULES, numbered 0, 1, .."
    private static void atMost14Rules() {
        for (int rules = 1; rules <= 14; rules++) {
            RankedTrees x = Check.loaded(Check.FOURTEEN.substring(0, 4 * rules), "");
            Check.same("rules", x.rules(), rules);
            Check.same("the last one's symbol", x.rule(rules - 1, 1), 'a' + rules - 1);
            int behind = rules;
            Check.refused("rule(" + rules + ", 0)", Check.INDEX, () -> x.rule(behind, 0));
        }
        Check.loads(Check.FOURTEEN + "A=o;", -15);
        Check.loads(Check.FOURTEEN + "A=o;A=p;", -15);
    }

    // "a HEAD, one of the letters A .. E"
    private static void heads() {
        inTheGap("", "=a;", code -> isLetter(code) ? 0 : -1);
        inTheGap("B=b;", "=a;", code -> isLetter(code) ? 0 : -2);
        Check.loads("=a;", -1);
        Check.loads("AA=a;", -1);
    }

    private static void equalsSigns() {
        inTheGap("A", "a;", code -> code == '=' ? 0 : -1);
        Check.loads("Aa;", -1);
        Check.loads("A==a;", -1);
    }

    // "a BODY of one to three SYMBOLS"
    private static void oneToThreeSymbols() {
        Check.loads("A=;", -1);
        Check.loads("A=:5;", -1);
        String[] bodies = {"a", "B", "ab", "BC", "aB", "Ba", "abc", "BCD", "aBc", "BaC"};
        for (String body : bodies) {
            RankedTrees x = Check.loaded("A=" + body + ";", "");
            for (int place = 0; place < 3; place++) {
                int want = place < body.length() ? body.charAt(place) : 0;
                Check.same("symbol of " + body, x.rule(0, place + 1), want);
            }
        }
        Check.loads("A=abcd;", -1);
        Check.loads("A=BCDE;", -1);
        Check.loads("A=aaaaa;", -1);
        Check.loads("A=abcd:5;", -1);
    }

    // "each a letter A .. E or a TOKEN a .. z"
    private static void symbols() {
        IntUnaryOperator inside = code -> isSymbol(code) ? 0 : code == ';' ? -2 : -1;
        inTheGap("A=", ";", code -> isSymbol(code) ? 0 : -1);
        inTheGap("A=a", ";", inside);
        inTheGap("A=ab", ";", inside);
        inTheGap("A=abc", ";", code -> code == ';' ? -2 : -1);
        inTheGap("A=", "c;", code -> isSymbol(code) ? 0 : -1);
        inTheGap("A=b", "c;", code -> isSymbol(code) ? 0 : code == ';' ? -2 : -1);
    }

    // "a WEIGHT 0 .. 999", "one to three digits (0 in front, too)"
    private static void weights0To999() {
        for (int weight = 0; weight <= 999; weight++) {
            for (String form : new String[] {"%d", "%02d", "%03d"}) {
                String told = String.format(form, weight);
                RankedTrees x = Check.loaded("A=a:" + told + ";", "a");
                Check.same("weight " + told + " of the rule", x.rule(0, 4), weight);
                Check.same("weight " + told + " of the tree", x.weight(0), weight);
            }
        }
        for (String told : new String[] {"1000", "9999", "0000", "0001", "0999", "00000"}) {
            Check.loads("A=a:" + told + ";", -1);
        }
    }

    private static void oneToThreeDigits() {
        IntUnaryOperator inside = code -> isDigit(code) ? 0 : code == ';' ? -2 : -1;
        inTheGap("A=a:", ";", code -> isDigit(code) ? 0 : -1);
        inTheGap("A=a:1", ";", inside);
        inTheGap("A=a:12", ";", inside);
        inTheGap("A=a:123", ";", code -> code == ';' ? -2 : -1);
        Check.loads("A=a:;", -1);
        Check.loads("A=a:", -1);
    }

    // "its weight (1 when it is not told)"
    private static void weight1WhenNotTold() {
        RankedTrees x = Check.loaded("A=a;B=ab;C=abc;D=a:0;E=a:1;E=b:2;E=ABC;", "a");
        int[] want = {1, 1, 1, 0, 1, 2, 1};
        for (int k = 0; k < want.length; k++) {
            Check.same("weight of rule " + k, x.rule(k, 4), want[k]);
        }
        Check.same("weight of the tree", x.weight(0), 1);
    }

    // "The START is the head of rule 0."
    private static void theStart() {
        for (char start = 'A'; start <= 'E'; start++) {
            StringBuilder text = new StringBuilder(start + "=x;");
            for (char other = 'A'; other <= 'E'; other++) {
                text.append(other).append("=y;");
            }
            RankedTrees x = Check.loaded(text.toString(), "x");
            Check.same("trees of x for " + start, x.trees(), 1);
            Check.row(x, "y");
            Check.same("trees of y for " + start, x.trees(), 1);
            Check.same("its rule", x.at(0, 0, 0), 1 + start - 'A');
        }
    }

    // "one behind the other, each with a ';' behind it"
    private static void aSemicolonBehindEach() {
        inTheGap("A=a", "", code -> code == ';' ? 0 : -1);
        inTheGap("A=abc:123", "", code -> code == ';' ? 0 : -1);
        inTheGap("A=a", "B=b;", code -> code == ';' ? 0 : -1);
        inTheGap("A=a;", "", code -> -2);
        inTheGap("A=a;", "B=b;", code -> -2);
        inTheGap("", "A=a;", code -> -1);
    }

    // "no two have the same head and body"
    private static void noTwoTheSame() {
        for (int k = 1; k < 14; k++) {
            for (int before = 0; before < k; before++) {
                String twin = Check.FOURTEEN.substring(4 * before, 4 * before + 4);
                Check.loads(Check.FOURTEEN.substring(0, 4 * k) + twin, -(k + 1));
            }
        }
        String[] bodies = {"a", "B", "ab", "aB", "BC", "abc", "BCD"};
        for (String body : bodies) {
            Check.loads("A=" + body + ":3;A=" + body + ":3;", -2);
            Check.loads("A=" + body + ";A=" + body + ":4;", -2);
            Check.loads("A=" + body + ";E=" + body + ";", 0);
            Check.loads("A=" + body + ";A=z" + body.substring(1) + ";", 0);
            Check.loads("A=" + body + ";A=" + body.substring(0, body.length() - 1) + "z;", 0);
        }
        Check.loads("A=a;A=aa;A=aaa;B=a;B=aa;B=aaa;", 0);
        Check.loads("A=aaa;A=aa;A=a;", 0);
        Check.loads("A=ab;A=ba;A=abc;A=acb;A=cab;", 0);
        Check.loads("A=abc;A=azc;", 0);
    }

    // A good text has 14 rules of ten characters at most; a text has room for a hundred more.
    private static void theLongestText() {
        StringBuilder text = new StringBuilder();
        for (int k = 0; k < 14; k++) {
            text.append("A=bc").append((char) ('a' + k)).append(":999;");
        }
        Check.same("characters", text.length(), 140);
        RankedTrees x = Check.loaded(text.toString(), "bcn");
        Check.same("rules", x.rules(), 14);
        Check.same("weight", x.weight(0), 999);
        Check.same("its rule", x.at(0, 0, 0), 13);
        Check.write(x, " ");
        Check.same("load of 141 characters", x.load(), -15);
        Check.same("room", Portrait.roomOfText(x), 99);
        Check.same("load of 240 characters", x.load(), -15);
    }

    // "one of the rules of some tree for the START, be its span as long as it may"
    private static void usefulBeyondAnyRow() {
        RankedTrees six = Check.loaded("A=BBB;B=bb;", "bbbbbb");
        Check.same("trees of six", six.trees(), 1);
        Check.useful("A=BBB;B=bb;", "11");
        Check.useful("A=BBC;B=bb;C=bbb;", "111");
        Check.useful("A=a;A=BBC;B=bb;C=bbb;", "1111");
        Check.useful("A=BBB;B=CCC;C=ccc;", "111");
        Check.useful("A=BBB;B=CCC;C=DDD;D=EEE;E=eee;", "11111");
        Check.useful("E=DDD;D=CCC;C=BBB;B=AAA;A=aaa;", "11111");
        Check.useful("E=DDD;D=CCC;C=BBB;B=AAA;A=aAa;", "00000");
    }

    private static void usefulOnBothSides() {
        Check.useful("A=a;", "1");
        Check.useful("A=A;", "0");
        Check.useful("A=aA;", "0");
        Check.useful("A=aA;A=a;", "11");
        Check.useful("A=B;", "0");
        Check.useful("A=B;B=b;", "11");
        Check.useful("A=a;B=b;", "10");
        Check.useful("A=a;B=A;", "10");
        Check.useful("A=a;A=BC;B=b;", "100");
        Check.useful("A=a;A=BC;B=b;C=c;", "1111");
        Check.useful("A=a;A=BCD;B=b;C=c;", "1000");
        Check.useful("A=a;A=BCD;B=b;C=c;D=d;", "11111");
        Check.useful("A=a;A=bB;B=bB;", "100");
        Check.useful("A=a;A=bB;B=bB;B=bA;", "1111");
    }

    /** X=Y;Y=Z; .. =X; over the first letters behind the one told. */
    private static String ring(char first, int letters) {
        StringBuilder text = new StringBuilder();
        for (int k = 0; k < letters; k++) {
            text.append((char) (first + k)).append('=');
            text.append((char) (first + (k + 1) % letters)).append(';');
        }
        return text.toString();
    }

    // "useful rules with bodies of one letter that lead from it over any letters back to it"
    private static void aLetterComesToItself() {
        for (int letters = 1; letters <= 5; letters++) {
            for (int way = 0; way < letters; way++) {
                Check.loads(ring('A', letters) + (char) ('A' + way) + "=x;", RankedTrees.ROUND);
            }
        }
        for (int letters = 1; letters <= 4; letters++) {
            String ring = ring('B', letters);
            Check.loads("A=B;" + ring + "B=x;", RankedTrees.ROUND);
            Check.loads("A=aBc;" + ring + "B=x;", RankedTrees.ROUND);
            Check.loads("A=AB;A=a;" + ring + "B=x;", RankedTrees.ROUND);
            Check.loads(ring + "B=x;", RankedTrees.ROUND);
        }
        Check.loads("A=BC;B=b;C=DE;D=d;E=E;E=e;", RankedTrees.ROUND);
        Check.loads("A=B;A=C;B=D;C=D;D=d;D=C;", RankedTrees.ROUND);
    }

    private static void noLetterComesToItself() {
        for (int letters = 1; letters <= 5; letters++) {
            String ring = ring('A', letters);
            String open = ring.substring(0, ring.length() - 4);
            char last = (char) ('A' + letters - 1);
            Check.loads(ring, 0);
            Check.loads(open + last + "=x;", 0);
            Check.loads(open + last + "=x;" + last + "=Ax;", 0);
            Check.loads(open + last + "=x;" + last + "=xA;", 0);
            Check.loads(open + last + "=x;" + last + "=AA;", 0);
            Check.loads(open + last + "=x;" + last + "=AAA;", 0);
        }
        for (int letters = 1; letters <= 4; letters++) {
            String ring = ring('B', letters);
            Check.loads("A=a;" + ring + "B=x;", 0);
            Check.loads("A=a;A=B;" + ring, 0);
            Check.loads("A=B;" + ring, 0);
        }
        for (int letters = 1; letters <= 3; letters++) {
            Check.loads("A=a;A=BE;" + ring('B', letters) + "B=x;", 0);
        }
        Check.loads("A=B;A=C;B=D;C=D;D=d;B=C;", 0);
    }
}
