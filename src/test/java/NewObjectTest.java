/** Promise 1: an empty text, no grammar, an empty row. */
public final class NewObjectTest {
    public static void main(String[] args) {
        emptyText();
        noGrammar();
        emptyRow();
        objectsAreApart();
        Check.end();
    }

    private static void emptyText() {
        RankedTrees x = new RankedTrees();
        Check.same("load of an empty text", x.load(), -1);
        Check.write(x, "A=a;");
        Check.same("load of what was written alone", x.load(), 0);
        Check.same("room of the text", Portrait.roomOfText(new RankedTrees()), 240);
    }

    private static void noGrammar() {
        RankedTrees x = new RankedTrees();
        Check.same("rules", x.rules(), 0);
        Check.refused("rule", Check.INDEX, () -> x.rule(0, 0));
        Check.refused("rule with a wrong what", Check.INDEX, () -> x.rule(0, 9));
        Check.refused("trees", Check.STATE, x::trees);
        Check.refused("ways", Check.STATE, () -> x.ways('A', 0, 1));
        Check.refused("ways with wrong arguments", Check.STATE, () -> x.ways('z', 4, 1));
        Check.refused("weight", Check.STATE, () -> x.weight(0));
        Check.refused("weight with a wrong k", Check.STATE, () -> x.weight(8));
        Check.refused("size", Check.STATE, () -> x.size(0));
        Check.refused("size with a wrong k", Check.STATE, () -> x.size(-1));
        Check.refused("at", Check.STATE, () -> x.at(0, 0, 0));
        Check.refused("at with wrong arguments", Check.STATE, () -> x.at(8, -1, 3));
    }

    private static void emptyRow() {
        Check.same("drop", new RankedTrees().drop(), 0);
        Check.same("token", new RankedTrees().token('a'), 1);
        Check.same("room of the row", Portrait.roomOfRow(new RankedTrees()), 6);
        RankedTrees x = Check.loaded("A=a;", "");
        Check.same("trees", x.trees(), 0);
        Check.refused("ways", Check.INDEX, () -> x.ways('A', 0, 1));
        Check.refused("weight", Check.ELEMENT, () -> x.weight(0));
    }

    private static void objectsAreApart() {
        RankedTrees x = Check.loaded("A=a;", "a");
        RankedTrees y = new RankedTrees();
        Check.same("load of another object", y.load(), -1);
        Check.same("rules of another object", y.rules(), 0);
        Check.same("drop of another object", y.drop(), 0);
        Check.same("trees of the first object", x.trees(), 1);
    }
}
