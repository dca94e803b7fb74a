/** Promises 2 and 3: write and wipe. */
public final class TextTest {
    public static void main(String[] args) {
        lowestByteFirst();
        zeroBytesAreLeftOut();
        onlyCharacters32To126();
        aRefusedWriteAddsNone();
        atMost240();
        aRefusedWriteBeyond240AddsNone();
        wipeEmpties();
        Check.end();
    }

    private static void lowestByteFirst() {
        RankedTrees x = new RankedTrees();
        Check.holds("write", x.write(0x3B323A63_62613D42L));
        Check.same("load", x.load(), 0);
        int[] want = {'B', 'a', 'b', 'c', 2};
        for (int what = 0; what < want.length; what++) {
            Check.same("rule(0, " + what + ")", x.rule(0, what), want[what]);
        }
    }

    private static void zeroBytesAreLeftOut() {
        RankedTrees x = new RankedTrees();
        Check.holds("write of no characters", x.write(0));
        Check.holds("write with gaps", x.write(0x003D0000_41000000L));
        Check.holds("write with a gap in front", x.write(0x3B000000_00006100L));
        Check.same("load", x.load(), 0);
        Check.same("symbol", x.rule(0, 1), 'a');
        Check.same("no second symbol", x.rule(0, 2), 0);
    }

    private static void onlyCharacters32To126() {
        for (int code = 1; code < 256; code++) {
            for (int place = 0; place < 8; place++) {
                boolean got = new RankedTrees().write((long) code << (8 * place));
                Check.same("write of " + code, got ? 1 : 0, code >= 32 && code <= 126 ? 1 : 0);
            }
        }
        Check.fails("write of -1", new RankedTrees().write(-1L));
    }

    private static void aRefusedWriteAddsNone() {
        for (int bad : new int[] {1, 10, 31, 127, 128, 255}) {
            RankedTrees x = new RankedTrees();
            Check.write(x, "A=a");
            Check.fails("write", x.write(Check.packed(";" + (char) bad)));
            Check.fails("write", x.write(Check.packed((char) bad + ";")));
            Check.fails("write", x.write(Check.packed("b;B=c;A" + (char) bad)));
            Check.same("load without a ';'", x.load(), -1);
            Check.write(x, ";");
            Check.same("load", x.load(), 0);
            Check.same("rules", x.rules(), 1);
        }
    }

    private static void atMost240() {
        RankedTrees x = new RankedTrees();
        for (int k = 0; k < 30; k++) {
            Check.holds("write " + k, x.write(Check.packed("A=a;B=b;")));
        }
        Check.fails("write of the 241st", x.write(Check.packed("a")));
        Check.fails("write of the 241st in the last byte", x.write(Check.packed("a") << 56));
        Check.holds("write of none to a full text", x.write(0));
        Check.fails("write of no character to a full text", x.write(7));
        Check.same("load of a full text", x.load(), -3);
        x.wipe();
        Check.holds("write behind wipe", x.write(Check.packed("A=a;")));
    }

    private static void aRefusedWriteBeyond240AddsNone() {
        RankedTrees x = new RankedTrees();
        for (int k = 0; k < 29; k++) {
            Check.holds("write " + k, x.write(Check.packed("A=a;B=b;")));
        }
        Check.holds("write of 6", x.write(Check.packed("A=a;B=")));
        Check.fails("write of 3 where 2 have room", x.write(Check.packed("abc")));
        Check.holds("write of 2", x.write(Check.packed("a") | Check.packed("b") << 56));
        Check.fails("write of 1 where none has room", x.write(Check.packed("c")));
    }

    private static void wipeEmpties() {
        RankedTrees x = Check.loaded("A=a;A=b:5;", "ab");
        x.wipe();
        Check.same("the grammar stays", x.rules(), 2);
        Check.same("the grammar's weights stay", x.rule(1, 4), 5);
        Check.same("load of the empty text", x.load(), -1);
        x.wipe();
        Check.same("load when wiped twice", x.load(), -1);
        Check.same("the row stays", x.drop(), 2);
        Check.write(x, "B=c;");
        Check.same("load of the new text", x.load(), 0);
        Check.same("rules of the new text", x.rules(), 1);
    }
}
