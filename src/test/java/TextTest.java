/** Promises 2 and 3: write and wipe. */
public final class TextTest {
    public static void main(String[] args) {
        lowestByteFirst();
        eachByteInItsTurn();
        zeroBytesAreLeftOut();
        onlyCharacters32To126();
        aRefusedWriteAddsNone();
        oneBadByteAmongGoodOnes();
        atMost240();
        theLastThatFits();
        roomIsForCharactersNotBytes();
        badAndTooMany();
        aRefusedWriteBeyond240AddsNone();
        wipeEmpties();
        wipeOfAFullText();
        whatIsGoneIsNotRead();
        writeChangesTheTextAlone();
        Check.end();
    }

    private static void lowestByteFirst() {
        RankedTrees x = new RankedTrees();
        Check.holds("write", x.write(0x3B323A63_62613D42L));
        Check.same("load", x.load(), 0);
        int[] want = {'B', 'a', 'b', 'c', 2};
        for (int what = 0; what < want.length; what++) {
            Check.same("rule(0, " + what + ")", x.rule(0, what), want[what]);
        }
    }

    private static void eachByteInItsTurn() {
        String text = "A=abc:7;";
        for (int split = 0; split <= 8; split++) {
            RankedTrees x = new RankedTrees();
            long all = Check.packed(text);
            long low = split == 8 ? all : all & ((1L << (8 * split)) - 1);
            Check.holds("write of the low bytes", x.write(low));
            Check.holds("write of the high bytes in their places", x.write(all - low));
            Check.same("load", x.load(), 0);
            Check.same("third symbol", x.rule(0, 3), 'c');
            Check.same("weight", x.rule(0, 4), 7);
        }
    }

    private static void zeroBytesAreLeftOut() {
        RankedTrees x = new RankedTrees();
        Check.holds("write of no characters", x.write(0));
        Check.holds("write with gaps", x.write(0x003D0000_41000000L));
        Check.holds("write with a gap in front", x.write(0x3B000000_00006100L));
        Check.same("load", x.load(), 0);
        Check.same("symbol", x.rule(0, 1), 'a');
        Check.same("no second symbol", x.rule(0, 2), 0);
    }

    private static void onlyCharacters32To126() {
        for (int code = 1; code < 256; code++) {
            for (int place = 0; place < 8; place++) {
                boolean got = new RankedTrees().write((long) code << (8 * place));
                Check.same("write of " + code, got ? 1 : 0, code >= 32 && code <= 126 ? 1 : 0);
            }
        }
        Check.fails("write of -1", new RankedTrees().write(-1L));
    }

    private static void aRefusedWriteAddsNone() {
        for (int bad : new int[] {1, 10, 31, 127, 128, 255}) {
            RankedTrees x = new RankedTrees();
            Check.write(x, "A=a");
            Check.fails("write", x.write(Check.packed(";" + (char) bad)));
            Check.fails("write", x.write(Check.packed((char) bad + ";")));
            Check.fails("write", x.write(Check.packed("b;B=c;A" + (char) bad)));
            Check.same("load without a ';'", x.load(), -1);
            Check.write(x, ";");
            Check.same("load", x.load(), 0);
            Check.same("rules", x.rules(), 1);
        }
    }

    // Seven good characters do not save the eighth, wherever it stands.
    private static void oneBadByteAmongGoodOnes() {
        long good = Check.packed("AAAAAAAA");
        for (int place = 0; place < 8; place++) {
            long rest = good & ~(255L << (8 * place));
            for (int code = 0; code < 256; code++) {
                RankedTrees x = new RankedTrees();
                boolean fine = code == 0 || code >= 32 && code <= 126;
                boolean got = x.write(rest | (long) code << (8 * place));
                Check.same("write of " + code + " at " + place, got ? 1 : 0, fine ? 1 : 0);
                int added = code == 0 ? 7 : fine ? 8 : 0;
                Check.same("room behind " + code, Portrait.roomOfText(x), 240 - added);
            }
        }
    }

    private static RankedTrees written(int characters) {
        RankedTrees x = new RankedTrees();
        Check.write(x, "A=a;B=b;".repeat(30).substring(0, characters));
        return x;
    }

    // "there would be more than 240"
    private static void theLastThatFits() {
        for (int before = 230; before <= 240; before++) {
            for (int more = 0; more <= 8; more++) {
                RankedTrees x = written(before);
                boolean fits = before + more <= 240;
                boolean got = x.write(Check.packed("########".substring(8 - more)));
                Check.same(more + " behind " + before, got ? 1 : 0, fits ? 1 : 0);
                int room = 240 - before - (fits ? more : 0);
                Check.same("room behind " + before, Portrait.roomOfText(x), room);
            }
        }
    }

    private static void roomIsForCharactersNotBytes() {
        for (int place = 0; place < 8; place++) {
            RankedTrees x = written(239);
            Check.holds("the 240th in byte " + place, x.write((long) ';' << (8 * place)));
            Check.fails("the 241st in byte " + place, x.write((long) ';' << (8 * place)));
            Check.holds("none behind the 240th", x.write(0));
        }
    }

    private static void badAndTooMany() {
        RankedTrees x = written(236);
        Check.fails("bad in the room", x.write(Check.packed("A\tAAAA")));
        Check.fails("bad behind the room", x.write(Check.packed("AAAAA\t")));
        Check.fails("bad, and few enough", x.write(Check.packed("AA\t")));
        Check.same("room", Portrait.roomOfText(x), 4);
    }

    private static void atMost240() {
        RankedTrees x = new RankedTrees();
        for (int k = 0; k < 30; k++) {
            Check.holds("write " + k, x.write(Check.packed("A=a;B=b;")));
        }
        Check.fails("write of the 241st", x.write(Check.packed("a")));
        Check.fails("write of the 241st in the last byte", x.write(Check.packed("a") << 56));
        Check.holds("write of none to a full text", x.write(0));
        Check.fails("write of no character to a full text", x.write(7));
        Check.same("load of a full text", x.load(), -3);
        x.wipe();
        Check.holds("write behind wipe", x.write(Check.packed("A=a;")));
    }

    private static void aRefusedWriteBeyond240AddsNone() {
        RankedTrees x = new RankedTrees();
        for (int k = 0; k < 29; k++) {
            Check.holds("write " + k, x.write(Check.packed("A=a;B=b;")));
        }
        Check.holds("write of 6", x.write(Check.packed("A=a;B=")));
        Check.fails("write of 3 where 2 have room", x.write(Check.packed("abc")));
        Check.holds("write of 2", x.write(Check.packed("a") | Check.packed("b") << 56));
        Check.fails("write of 1 where none has room", x.write(Check.packed("c")));
    }

    private static void wipeEmpties() {
        RankedTrees x = Check.loaded("A=a;A=b:5;", "ab");
        x.wipe();
        Check.same("the grammar stays", x.rules(), 2);
        Check.same("the grammar's weights stay", x.rule(1, 4), 5);
        Check.same("load of the empty text", x.load(), -1);
        x.wipe();
        Check.same("load when wiped twice", x.load(), -1);
        Check.same("the row stays", x.drop(), 2);
        Check.write(x, "B=c;");
        Check.same("load of the new text", x.load(), 0);
        Check.same("rules of the new text", x.rules(), 1);
    }

    private static void wipeOfAFullText() {
        RankedTrees x = written(240);
        Check.fails("write to the full text", x.write(Check.packed("A")));
        x.wipe();
        Check.same("load", x.load(), -1);
        Check.same("room", Portrait.roomOfText(x), 240);
        x.wipe();
        Check.same("room once more", Portrait.roomOfText(x), 240);
    }

    // A longer text before, or a write that was refused, must not make up for what is missing.
    private static void whatIsGoneIsNotRead() {
        String whole = "A=abc:123;";
        for (int end = 0; end < whole.length(); end++) {
            RankedTrees wiped = new RankedTrees();
            Check.write(wiped, whole);
            wiped.wipe();
            Check.write(wiped, whole.substring(0, end));
            Check.same("load of " + whole.substring(0, end), wiped.load(), -1);
            RankedTrees refused = new RankedTrees();
            Check.write(refused, whole.substring(0, end));
            String rest = whole.substring(end, Math.min(end + 7, whole.length()));
            Check.fails("write", refused.write(Check.packed(rest + '\u001f')));
            Check.same("load of " + whole.substring(0, end), refused.load(), -1);
        }
    }

    private static void writeChangesTheTextAlone() {
        String grammar = "A=AA:2;A=a;B=b;";
        String before = Portrait.seen(Check.loaded(grammar, "aaa"));
        RankedTrees x = Check.loaded(grammar, "aaa");
        Check.write(x, "C=c;");
        Check.text("behind write", Portrait.seen(x), before);
        x.wipe();
        Check.write(x, "B=aaa;");
        Check.text("behind another text", Portrait.seen(x), before);
        Check.same("load", x.load(), 0);
        Check.same("trees", x.trees(), 1);
        Check.same("drop", x.drop(), 3);
        RankedTrees y = Check.loaded(grammar, "aaa");
        y.wipe();
        Check.text("behind wipe", Portrait.seen(y), before);
    }
}
