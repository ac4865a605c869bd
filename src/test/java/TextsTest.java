/** Promises 10 and 11: the text. */
public final class TextsTest {
    private static final Due DUE = new Due("TextsTest");

    public static void main(String[] args) {
        type();
        typeAnyCharacter();
        clearText();
        DUE.finish();
    }

    private static void type() {
        DUE.promise("promise 10");
        BlockRanks x = new BlockRanks();
        for (int i = 1; i <= 60; i++) {
            DUE.is("type", x.type('7'), i);
            DUE.is("length", x.count(4), i);
        }
        DUE.is("one more", x.type('7'), BlockRanks.FULL);
        DUE.is("and once more", x.type((char) 0), BlockRanks.FULL);
        DUE.is("length", x.count(4), 60);
        DUE.is("it is no act", x.count(3), 0);
        DUE.is("the first numbers are read", x.times(0, 0), -103);
    }

    private static void typeAnyCharacter() {
        DUE.promise("promise 10");
        BlockRanks x = new BlockRanks();
        char[] characters = {0, 9, 10, ' ', 127, 128, 255, 256, 0x0141, 0xd800, 0xdc00, 0xffff};
        for (int i = 0; i < characters.length; i++) {
            DUE.is("type", x.type(characters[i]), i + 1);
        }
        Due.write(x, "A=B");
        DUE.is("work()", x.work(), 0);
        // 0x0141 and 0x0241 end with the bits of 'A': they are other characters all the same.
        x.clearText();
        x.type((char) 0x0141);
        DUE.is("work()", x.work(), -100);
        Due.write(x, "A=");
        x.type((char) 0x0241);
        DUE.is("work()", x.work(), -102);
    }

    private static void clearText() {
        DUE.promise("promise 11");
        BlockRanks x = new BlockRanks();
        DUE.is("clearText()", x.clearText(), 0);
        for (int i = 0; i < 70; i++) {
            x.type('A');
        }
        DUE.is("clearText()", x.clearText(), 60);
        DUE.is("clearText() again", x.clearText(), 0);
        DUE.is("it is no act", x.count(3), 0);
        DUE.is("type", x.type('A'), 1);
        x.type('=');
        x.type('B');
        DUE.is("what was there is gone", x.work(), 0);
        x.undo();
        DUE.is("the text is not part of the state", x.clearText(), 3);
    }
}
