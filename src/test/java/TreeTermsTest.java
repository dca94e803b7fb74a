/** The section "Terms" from the row on: where a row, a span and a place end, and trees' order. */
public final class TreeTermsTest {
    public static void main(String[] args) {
        atMost6Tokens();
        placesFrom0();
        iBelowJ();
        asManySpansAsSymbols();
        aTokenHasJustItsOwn();
        aLetterHasATree();
        theWeight();
        theRules();
        lessWeightFirst();
        theLesserRuleFirst();
        atTheFirstDifference();
        forTheStartAndAllTokens();
        noneWhenTheRowIsEmpty();
        Check.end();
    }

    // "a list of at most 6 tokens"
    private static void atMost6Tokens() {
        RankedTrees x = Check.loaded("A=aA;A=b;", "");
        for (int tokens = 1; tokens <= 6; tokens++) {
            Check.row(x, "aaaaab".substring(6 - tokens));
            Check.same("trees of " + tokens, x.trees(), 1);
            Check.same("rules of " + tokens, x.size(0), tokens);
        }
        Check.refused("a 7th", Check.STATE, () -> x.token('b'));
        Check.same("trees", x.trees(), 1);
        Check.same("tokens", x.drop(), 6);
    }

    // "places in it are counted from 0"
    private static void placesFrom0() {
        RankedTrees x = Check.loaded("A=BAC;A=D;B=a;B=b;C=e;C=f;D=cd;", "abcdef");
        Check.ranks(x, "8: 0(0,6) 2(0,1) 0(1,5) 3(1,2) 1(2,4) 6(2,4) 4(4,5) 5(5,6)");
        for (int from = 0; from < 6; from++) {
            for (char letter = 'B'; letter <= 'C'; letter++) {
                boolean there = letter == 'B' ? from <= 1 : from >= 4;
                Check.same("ways of " + letter, x.ways(letter, from, from + 1), there ? 1 : 0);
            }
        }
        Check.same("ways of D", x.ways('D', 2, 4), 1);
    }

    // "the tokens from place i on, before place j, i below j"
    private static void iBelowJ() {
        RankedTrees x = Check.loaded("A=a;A=AA;", "aaaaaa");
        long[] catalan = {1, 1, 2, 5, 14, 42};
        for (int i = 0; i <= 6; i++) {
            for (int j = 0; j <= 6; j++) {
                int from = i;
                int to = j;
                String span = "ways of (" + i + ", " + j + ")";
                if (i < j) {
                    Check.same(span, x.ways('A', i, j), catalan[j - i - 1]);
                } else {
                    Check.refused(span, Check.INDEX, () -> x.ways('A', from, to));
                }
            }
        }
    }

    // "divides the span into as many spans, side by side, as the rule's body has symbols"
    private static void asManySpansAsSymbols() {
        String[] bodies = {"B", "BC", "BCD"};
        long[][] want = {{1, 1, 1, 1, 1, 1}, {0, 1, 2, 3, 4, 5}, {0, 0, 1, 3, 6, 10}};
        for (int k = 0; k < 3; k++) {
            RankedTrees x = Check.loaded(
                    "A=" + bodies[k] + ";B=x;B=xB;C=x;C=xC;D=x;D=xD;", "");
            for (int tokens = 1; tokens <= 6; tokens++) {
                x.token('x');
                Check.same(bodies[k] + " over " + tokens, x.trees(), want[k][tokens - 1]);
            }
        }
    }

    /** How many trees each of these rows has. */
    private static void counts(String text, String[] rows, long... want) {
        RankedTrees x = Check.loaded(text, "");
        for (int k = 0; k < rows.length; k++) {
            Check.row(x, rows[k]);
            Check.same("trees of " + rows[k] + " by " + text, x.trees(), want[k]);
        }
    }

    // "where the symbol is a token, its span must have just this one"
    private static void aTokenHasJustItsOwn() {
        String[] rows = {"a", "b", "z", "aa", "ab", "ba", "aab", "aba", "abb", "aaa"};
        counts("A=a;", rows, 1, 0, 0, 0, 0, 0, 0, 0, 0, 0);
        counts("A=z;", rows, 0, 0, 1, 0, 0, 0, 0, 0, 0, 0);
        counts("A=ab;", rows, 0, 0, 0, 0, 1, 0, 0, 0, 0, 0);
        counts("A=aba;", rows, 0, 0, 0, 0, 0, 0, 0, 1, 0, 0);
        counts("A=aB;B=a;B=b;B=bb;", rows, 0, 0, 0, 1, 1, 0, 0, 0, 1, 0);
        counts("A=Ba;B=a;B=b;B=ab;", rows, 0, 0, 0, 1, 0, 1, 0, 1, 0, 0);
        counts("A=BaC;B=a;B=b;C=b;C=a;", rows, 0, 0, 0, 0, 0, 0, 1, 0, 0, 1);
    }

    // "where it is a letter, the tree has a tree for it and its span"
    private static void aLetterHasATree() {
        String[] rows = {"b", "bb", "bbb", "c", "bc", "cb"};
        counts("A=B;B=b;", rows, 1, 0, 0, 0, 0, 0);
        counts("A=B;B=bb;", rows, 0, 1, 0, 0, 0, 0);
        counts("A=BC;B=b;C=c;", rows, 0, 0, 0, 0, 1, 0);
        counts("A=BC;B=b;C=c;C=b;", rows, 0, 1, 0, 0, 1, 0);
        counts("A=BC;B=b;C=D;D=D;", rows, 0, 0, 0, 0, 0, 0);
    }

    // "Its WEIGHT is that of its rule and those of its trees together."
    private static void theWeight() {
        Check.same("of a rule alone", Check.loaded("A=abc:17;", "abc").weight(0), 17);
        Check.same("with one tree", Check.loaded("A=xB:100;B=b:20;", "xb").weight(0), 120);
        Check.same("with three trees",
                Check.loaded("A=BCD:1;B=b:20;C=c:300;D=d:500;", "bcd").weight(0), 821);
        Check.same("the same rule twice", Check.loaded("A=BB:5;B=b:30;", "bb").weight(0), 65);
        Check.same("no weight", Check.loaded("A=BCD:0;B=b:0;C=c:00;D=d:000;", "bcd").weight(0), 0);
        // No tree has more rules: eleven spans, five letters each.
        Check.same("the most", Check.loaded(
                "A=B:999;B=C:999;C=D:999;D=E:999;E=AA:999;E=a:999;", "aaaaaa").weight(7), 54945);
    }

    // "its own, then those of its first tree, of its second one and of its third one"
    private static void theRules() {
        Check.ranks(Check.loaded("A=BCD;D=d;C=c;B=b;", "bcd"), "4: 0(0,3) 3(0,1) 2(1,2) 1(2,3)");
        Check.ranks(Check.loaded("A=BCB;B=bD;C=Dc;D=d;", "bddcbd"),
                "7: 0(0,6) 1(0,2) 3(1,2) 2(2,4) 3(2,3) 1(4,6) 3(5,6)");
        Check.ranks(Check.loaded("A=xBy;B=C;C=cC;C=c;", "xcccy"),
                "5: 0(0,5) 1(1,4) 2(1,4) 2(2,4) 3(3,4)");
    }

    // "the one with less weight comes first"
    private static void lessWeightFirst() {
        Check.ranks(Check.loaded("A=B:4;A=C:3;B=x:0;C=x:0;", "x"),
                "3: 1(0,1) 3(0,1)", "4: 0(0,1) 2(0,1)");
        Check.ranks(Check.loaded("A=B:3;A=C:3;B=x:1;C=x:0;", "x"),
                "3: 1(0,1) 3(0,1)", "4: 0(0,1) 2(0,1)");
        Check.ranks(Check.loaded("A=B:999;A=x:998;B=x:0;", "x"),
                "998: 1(0,1)", "999: 0(0,1) 2(0,1)");
        Check.ranks(Check.loaded("A=xx:2;A=BB:0;B=x:0;", "xx"),
                "0: 1(0,2) 2(0,1) 2(1,2)", "2: 0(0,2)");
        Check.ranks(Check.loaded("A=xx:10;A=BB:2;B=x:7;", "xx"),
                "10: 0(0,2)", "16: 1(0,2) 2(0,1) 2(1,2)");
    }

    // "where that is the same, the one with the lesser rule"
    private static void theLesserRuleFirst() {
        Check.ranks(Check.loaded("A=B:3;A=C:3;B=x:0;C=x:0;", "x"),
                "3: 0(0,1) 2(0,1)", "3: 1(0,1) 3(0,1)");
        Check.ranks(Check.loaded("A=C:3;A=B:3;B=x:0;C=x:0;", "x"),
                "3: 0(0,1) 3(0,1)", "3: 1(0,1) 2(0,1)");
        // Rule 2 is less than rule 10, though its digits are not.
        Check.ranks(Check.loaded("A=a;A=b;A=x:5;A=c;A=d;A=e;A=f;A=g;A=h;A=i;A=B:5;B=x:0;", "x"),
                "5: 2(0,1)", "5: 10(0,1) 11(0,1)");
        // Fewer rules do not count.
        Check.ranks(Check.loaded("A=B:1;A=x:3;B=C:1;C=x:1;", "x"),
                "3: 0(0,1) 2(0,1) 3(0,1)", "3: 1(0,1)");
    }

    // "at the first place where their rules differ"
    private static void atTheFirstDifference() {
        Check.ranks(Check.loaded("A=BBB:0;B=x:1;B=xx:1;", "xxxx"),
                "3: 0(0,4) 1(0,1) 1(1,2) 2(2,4)",
                "3: 0(0,4) 1(0,1) 2(1,3) 1(3,4)",
                "3: 0(0,4) 2(0,2) 1(2,3) 1(3,4)");
        // The first trees' order is turned round in the second ones: only the first ones count.
        Check.ranks(Check.loaded("A=BC;C=xx;C=x;B=x;B=xx;", "xxx"),
                "3: 0(0,3) 3(0,1) 1(1,3)", "3: 0(0,3) 4(0,2) 2(2,3)");
        // Deep in the first tree they differ, and the second one says the opposite.
        Check.ranks(Check.loaded("A=BC;B=yD;D=x;D=xx;C=xx;C=x;", "yxxx"),
                "4: 0(0,4) 1(0,2) 2(1,2) 4(2,4)", "4: 0(0,4) 1(0,3) 3(1,3) 5(3,4)");
        // At the last place alone.
        Check.ranks(Check.loaded("A=xyB;B=z:4;B=C:2;C=z:2;", "xyz"),
                "5: 0(0,3) 1(2,3)", "5: 0(0,3) 2(2,3) 3(2,3)");
    }

    // "those for the START and the span of all tokens"
    private static void forTheStartAndAllTokens() {
        String[] rows = {"x", "xx", "xxx", "y", "xy", "yx"};
        counts("B=x;A=y;A=xx;", rows, 1, 0, 0, 0, 0, 0);
        counts("A=y;B=x;A=xx;", rows, 0, 1, 0, 1, 0, 0);
        RankedTrees x = Check.loaded("B=xC;C=xx;", "xxx");
        Check.ranks(x, "2: 0(0,3) 1(1,3)");
        Check.same("ways of the whole", x.ways('B', 0, 3), 1);
        Check.same("ways of the tree in it", x.ways('C', 1, 3), 1);
    }

    // "none when the row is empty"
    private static void noneWhenTheRowIsEmpty() {
        RankedTrees x = Check.loaded("A=a;A=AA;", "");
        Check.ranks(x);
        Check.same("token", x.token('a'), 1);
        Check.ranks(x, "1: 0(0,1)");
        Check.same("drop", x.drop(), 1);
        Check.ranks(x);
        Check.refused("ways", Check.INDEX, () -> x.ways('A', 0, 1));
        Check.refused("the tree that was there", Check.ELEMENT, () -> x.size(0));
        Check.refused("its rules", Check.ELEMENT, () -> x.at(0, 0, 0));
    }
}
