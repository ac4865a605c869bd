/**
 * What several promises say together: acts behind undo() and restore(), texts that are read again, least trees of
 * cells that have changed, and tables that one call reads and changes.
 * The first remark of a test names the promise and the sentence; SentencesTest compares it with the document.
 */
public final class TogetherTest {
    private static final String ONES = "1,1,1,1,1,1,1,1";

    private static final Due DUE = new Due("TogetherTest");

    public static void main(String[] args) {
        valuesBehindAnUndonePrime();
        valuesBehindARestoredPrime();
        sumsOfThePrimeThatIsBack();
        ranksOfThePrimeThatIsBack();
        factorsOfThePrimeThatIsBack();
        splitsAndJoinsBehindUndo();
        splitsAndJoinsBehindRestore();
        leavesOfTheTreeThatIsBack();
        statesBehindUndoAreNotChanged();
        keepBehindUndo();
        rowForAnotherPrime();
        twoRowsForAnotherPrime();
        twoRowsForAnotherSize();
        twoRowsForALeafThatIsSplitAndJoined();
        oneTextForAllThatReadIt();
        leastTreeOfCellsThatAreSet();
        leastTreeOfProducts();
        leastTreeOfFormulas();
        leastTreeOfFactors();
        leastTreeOfAnotherPrime();
        leastTreeBehindUndoAndRestore();
        factorsOfFactors();
        factorsOfATableThatCantBeFactored();
        formulasOfFormulas();
        formulaWithOneTableThrice();
        DUE.finish();
    }

    // ---- the prime and the trees belong to the state

    /** Promise 12, HISTORY: "A state is everything but the text, the history and the snapshot." The prime for set. */
    private static void valuesBehindAnUndonePrime() {
        DUE.promise("promises 2, 3 and 12, values");
        BlockRanks x = new BlockRanks();
        x.set(0, 0, 0, 100);
        x.setPrime(7);
        DUE.is("100 modulo 7", x.cell(0, 0, 0), 2);
        DUE.is("7 is too much", x.set(0, 0, 1, 7), BlockRanks.BAD_VALUE);
        DUE.is("undo()", x.undo(), 1);
        DUE.is("the prime is back", x.count(0), 101);
        DUE.is("it is so already", x.setPrime(101), BlockRanks.NONE);
        DUE.is("the cell is so already", x.set(0, 0, 0, 100), BlockRanks.NONE);
        DUE.is("101 is too much", x.set(0, 0, 1, 101), BlockRanks.BAD_VALUE);
        DUE.is("100 is not", x.set(0, 0, 1, 100), 0);
        DUE.is("the prime once more", x.setPrime(7), 101);
        DUE.is("both cells", x.cell(0, 0, 0) + x.cell(0, 0, 1), 4);
    }

    /** Promise 14, HISTORY: "A state is everything but the text, the history and the snapshot." The prime for set. */
    private static void valuesBehindARestoredPrime() {
        DUE.promise("promises 2, 3 and 14, values");
        BlockRanks x = new BlockRanks();
        x.setPrime(7);
        x.set(3, 7, 7, 6);
        x.keep();
        x.setPrime(251);
        DUE.is("250", x.set(3, 7, 7, 250), 6);
        DUE.is("restore()", x.restore(), 7);
        DUE.is("the cell", x.cell(3, 7, 7), 6);
        DUE.is("7 is too much", x.set(3, 7, 7, 7), BlockRanks.BAD_VALUE);
        DUE.is("it is so already", x.setPrime(7), BlockRanks.NONE);
        DUE.is("undo() of restore()", x.undo(), 3);
        DUE.is("the prime before it", x.count(0), 251);
        DUE.is("the cell before it", x.cell(3, 7, 7), 250);
        DUE.is("restore() once more", x.restore(), 7);
        DUE.is("the previous prime", x.setPrime(2), 7);
        DUE.is("6 modulo 2", x.cell(3, 7, 7), 0);
    }

    /** Promise 5, TABLES: "All sums and products are modulo p". The prime that undo() and restore() bring back. */
    private static void sumsOfThePrimeThatIsBack() {
        DUE.promise("promises 4, 5, 12 and 14, sums");
        BlockRanks x = new BlockRanks();
        x.set(0, 0, 0, 6);
        Due.write(x, "B=A*A");
        x.keep();
        x.setPrime(7);
        x.work();
        DUE.is("36 modulo 7", x.cell(1, 0, 0), 1);
        x.undo();
        x.undo();
        x.work();
        DUE.is("36 behind undo()", x.cell(1, 0, 0), 36);
        x.setPrime(5);
        x.work();
        DUE.is("1 modulo 5", x.cell(1, 0, 0), 1);
        x.restore();
        x.work();
        DUE.is("36 behind restore()", x.cell(1, 0, 0), 36);
        BlockRanks y = new BlockRanks();
        y.setPrime(13);
        y.setPrime(251);
        y.undo();
        Due.write(y, "0,0,0,0,0,0,0,12;0,0,0,0,0,0,0,12");
        y.addProduct(2, 0);
        DUE.is("144 modulo 13", y.cell(2, 7, 7), 1);
    }

    /** Promise 16, BLOCKS: "The rank of a block is the rank of its cells modulo p." The prime that is back. */
    private static void ranksOfThePrimeThatIsBack() {
        DUE.promise("promises 12, 14, 16 and 17, ranks");
        BlockRanks x = new BlockRanks();
        for (int i = 0; i < 8; i++) {
            x.set(2, i, i, 2);
        }
        ranks("at first", x, 8, 54);
        x.setPrime(2);
        ranks("modulo 2", x, 0, 0);
        x.keep();
        x.undo();
        ranks("behind undo()", x, 8, 54);
        x.restore();
        ranks("behind restore()", x, 0, 0);
        x.undo();
        ranks("behind undo() of restore()", x, 8, 54);
        x.setPrime(3);
        ranks("modulo 3", x, 8, 1);
    }

    private static void ranks(String what, BlockRanks x, int rank, int determinant) {
        DUE.is(what + ": rank", x.table(2, 0), rank);
        DUE.is(what + ": determinant", x.table(2, 1), determinant);
        DUE.is(what + ": rank of the leaf", x.leaf(2, 0, 3), rank);
        DUE.is(what + ": cost", x.table(2, 4), 8 * rank);
        DUE.is(what + ": cost of all", x.count(1), 8 * rank);
        DUE.is(what + ": greatest rank", x.table(2, 7), rank);
        DUE.is(what + ": cells that are not 0", x.table(2, 8), rank);
    }

    /** Promise 6, TABLES: "a quotient a / b is that remainder q for which q * b is a (b is not 0)." The prime behind undo(). */
    private static void factorsOfThePrimeThatIsBack() {
        DUE.promise("promises 6, 12 and 21, quotients");
        BlockRanks x = new BlockRanks();
        Due.fillDiagonal(x, 0);
        x.set(0, 0, 0, 2);
        x.set(0, 1, 0, 1);
        Due.write(x, "1,0,0,0,0,0,0,0");
        DUE.is("2", x.factor(0, 1, 2), 2);
        DUE.is("1 / 2 modulo 101", x.cell(1, 1, 0), 51);
        DUE.is("1 / 2 modulo 101 by solve", x.solve(0, 0), 51);
        x.setPrime(2);
        DUE.is("2 modulo 2", x.factor(0, 1, 2), BlockRanks.NOT_POSSIBLE);
        DUE.is("the determinant modulo 2", x.solve(0, 0), BlockRanks.NOT_POSSIBLE);
        x.undo();
        DUE.is("1 / 2 behind undo() by solve", x.solve(0, 0), 51);
        x.setPrime(5);
        DUE.is("2 modulo 5", x.factor(0, 1, 2), 2);
        DUE.is("1 / 2 modulo 5", x.cell(1, 1, 0), 3);
        DUE.is("1 / 2 modulo 5 by solve", x.solve(0, 0), 3);
    }

    /** Promise 8, HISTORY: "undo() removes and restores the latest one." What can be split and joined then. */
    private static void splitsAndJoinsBehindUndo() {
        DUE.promise("promises 7, 8 and 12, trees");
        BlockRanks x = new BlockRanks();
        x.split(1, 0);
        x.undo();
        DUE.is("it is not split", x.join(1, 0), BlockRanks.NOT_POSSIBLE);
        DUE.is("there is no leaf 1", x.split(1, 1), BlockRanks.UNKNOWN);
        DUE.is("leaf(1, 1, 2)", x.leaf(1, 1, 2), BlockRanks.UNKNOWN);
        DUE.is("split", x.split(1, 0), 4);
        DUE.is("split", x.split(1, 2), 7);
        DUE.is("a quarter is no leaf", x.join(1, 0), BlockRanks.NOT_POSSIBLE);
        x.undo();
        DUE.is("it is one again", x.join(1, 3), 0);
        x.undo();
        DUE.is("four leaves", x.table(1, 3), 4);
        DUE.is("all leaves", x.count(2), 7);
        DUE.is("the last one", x.split(1, 3), 7);
        DUE.is("joined", x.join(1, 6), 3);
    }

    /** Promise 8, HISTORY: "A state is everything but the text, the history and the snapshot." The trees for join. */
    private static void splitsAndJoinsBehindRestore() {
        DUE.promise("promises 7, 8 and 14, trees");
        BlockRanks x = new BlockRanks();
        x.split(0, 0);
        x.split(0, 1);
        x.split(3, 0);
        x.keep();
        DUE.is("join", x.join(0, 4), 1);
        DUE.is("join", x.join(0, 0), 0);
        DUE.is("join", x.join(3, 2), 0);
        x.restore();
        DUE.is("leaves of A", x.table(0, 3), 7);
        DUE.is("leaves of D", x.table(3, 3), 4);
        DUE.is("a quarter is no leaf", x.join(0, 0), BlockRanks.NOT_POSSIBLE);
        DUE.is("the four that are joined first", x.join(0, 2), 1);
        DUE.is("and then these", x.join(0, 1), 0);
        x.undo();
        x.undo();
        x.undo();
        DUE.is("before restore(): A", x.table(0, 3), 1);
        DUE.is("before restore(): D", x.table(3, 3), 1);
    }

    /** Promise 18, BLOCKS: "The leaves of a table are numbered from 0". Those of the tree that is back. */
    private static void leavesOfTheTreeThatIsBack() {
        DUE.promise("promises 9, 12, 14, 17 and 18, leaves");
        BlockRanks x = new BlockRanks();
        x.set(0, 7, 7, 1);
        x.split(0, 0);
        x.keep();
        leaves("at first", x, 4, 4);
        DUE.is("recompress", x.recompress(0), 1);
        leaves("the least tree", x, 10, 1);
        x.undo();
        leaves("behind undo()", x, 4, 4);
        x.recompress(0);
        leaves("the least tree again", x, 10, 1);
        x.restore();
        leaves("behind restore()", x, 4, 4);
        x.undo();
        leaves("behind undo() of restore()", x, 10, 1);
        x.undo();
        x.undo();
        leaves("behind undo() of split", x, 1, 8);
    }

    private static void leaves(String what, BlockRanks x, int leaves, int lastSize) {
        DUE.is(what + ": leaves", x.table(0, 3), leaves);
        DUE.is(what + ": the leaf of the last cell", x.leafAt(0, 7, 7), leaves - 1);
        DUE.is(what + ": its size", x.leaf(0, leaves - 1, 2), lastSize);
        DUE.is(what + ": its first row", x.leaf(0, leaves - 1, 0), 8 - lastSize);
        DUE.is(what + ": its cost", x.leaf(0, leaves - 1, 4), lastSize == 1 ? 1 : 2 * lastSize);
        DUE.is(what + ": the next leaf", x.leaf(0, leaves, 2), BlockRanks.UNKNOWN);
    }

    /** Promise 12, HISTORY: "undo() removes and restores the latest one." What is done then changes no other state. */
    private static void statesBehindUndoAreNotChanged() {
        DUE.promise("promise 12, no other state is changed");
        BlockRanks x = new BlockRanks();
        x.keep();
        x.split(0, 0);
        x.split(0, 0);
        x.split(0, 0);
        x.setPrime(7);
        x.undo();
        x.undo();
        x.set(0, 0, 0, 100);
        x.split(0, 4);
        x.setPrime(3);
        DUE.is("the oldest is dropped", x.undo(), 3);
        x.undo();
        x.undo();
        DUE.is("leaves", x.table(0, 3), 7);
        DUE.is("the cell", x.cell(0, 0, 0), 0);
        DUE.is("one is left", x.undo(), 0);
        DUE.is("leaves of it", x.table(0, 3), 4);
        DUE.is("nothing is left", x.undo(), BlockRanks.NONE);
        DUE.is("the snapshot", x.restore(), 101);
        DUE.is("leaves of the snapshot", x.table(0, 3), 1);
    }

    /** Promise 13, HISTORY: "There is one snapshot, empty at first." It takes the state that undo() brought back. */
    private static void keepBehindUndo() {
        DUE.promise("promises 12, 13 and 14, keep");
        BlockRanks x = new BlockRanks();
        x.set(0, 0, 0, 9);
        x.split(0, 0);
        x.setPrime(7);
        x.undo();
        DUE.is("keep()", x.keep(), 101);
        x.undo();
        x.undo();
        DUE.is("the history is empty", x.count(3), 0);
        DUE.is("restore()", x.restore(), 101);
        DUE.is("the cell", x.cell(0, 0, 0), 9);
        DUE.is("the tree", x.table(0, 3), 4);
        DUE.is("restore() is all that there is", x.undo(), 0);
        DUE.is("the cell at first", x.cell(0, 0, 0), 0);
    }

    // ---- a text that is read again

    /** Promise 20: "BAD_VALUE if a number is not less than p". The prime changes, the text stays. */
    private static void rowForAnotherPrime() {
        DUE.promise("promises 2, 12, 14, 20 and 21, the row again");
        BlockRanks x = new BlockRanks();
        Due.fillDiagonal(x, 0);
        x.keep();
        Due.write(x, "0,1,2,3,4,5,6,7");
        row("modulo 101", x, 7);
        x.setPrime(7);
        row("modulo 7", x, BlockRanks.BAD_VALUE);
        x.setPrime(11);
        row("modulo 11", x, 7);
        x.undo();
        row("modulo 7 again", x, BlockRanks.BAD_VALUE);
        x.undo();
        row("modulo 101 again", x, 7);
        x.setPrime(5);
        row("modulo 5", x, BlockRanks.BAD_VALUE);
        x.restore();
        row("behind restore()", x, 7);
        x.type(',');
        row("with a fault", x, -115);
        x.setPrime(2);
        row("with a fault, modulo 2", x, -115);
    }

    private static void row(String what, BlockRanks x, int want) {
        DUE.is(what + ": times(0, 7)", x.times(0, 7), want);
        DUE.is(what + ": solve(0, 7)", x.solve(0, 7), want);
    }

    /** Promise 4: "BAD_VALUE if a number is not less than p". The prime changes, the text stays. */
    private static void twoRowsForAnotherPrime() {
        DUE.promise("promises 2, 4, 12 and 14, the two rows again");
        BlockRanks x = new BlockRanks();
        x.keep();
        Due.write(x, "0,0,0,0,0,0,0,10;0,0,0,0,0,0,0,3");
        x.setPrime(7);
        DUE.is("modulo 7", x.addProduct(1, 0), BlockRanks.BAD_VALUE);
        x.setPrime(11);
        DUE.is("modulo 11", x.addProduct(1, 0), 1);
        DUE.is("30 modulo 11", x.cell(1, 7, 7), 8);
        x.undo();
        x.undo();
        DUE.is("modulo 7 again", x.addProduct(1, 0), BlockRanks.BAD_VALUE);
        DUE.is("states", x.count(3), 1);
        x.restore();
        DUE.is("behind restore()", x.addProduct(1, 0), 1);
        DUE.is("30", x.cell(1, 7, 7), 30);
    }

    /** Promise 4: "a row of as many numbers as the size of the leaf". One text for leaves of each size. */
    private static void twoRowsForAnotherSize() {
        DUE.promise("promises 4 and 7, a leaf of another size");
        String[] texts = {"3;5", "1,3;2,5", "1,1,1,3;1,1,1,5", ONES + ";" + ONES};
        // The leaves 0, 4, 7 and, of another table, 0 have the sizes 1, 2, 4 and 8.
        int[] leaves = {0, 4, 7, 0};
        int[][] faults = {{0, 1, 1, 1}, {1, 0, 3, 3}, {1, 3, 0, 7}, {1, 3, 7, 0}};
        BlockRanks x = new BlockRanks();
        x.split(0, 0);
        x.split(0, 0);
        x.split(0, 0);
        for (int text = 0; text < 4; text++) {
            Due.write(x, texts[text]);
            for (int size = 0; size < 4; size++) {
                int want = size == text ? 1 : -100 - faults[text][size];
                DUE.is("'" + texts[text] + "' for the size " + (1 << size), x.addProduct(size / 3, leaves[size]), want);
            }
        }
        DUE.is("the size 1", x.cell(0, 0, 0), 15);
        DUE.is("the size 2", x.cell(0, 1, 3), 15);
        DUE.is("the size 4", x.cell(0, 3, 7), 15);
        DUE.is("the size 8", x.cell(1, 7, 7), 1);
    }

    /** Promise 4: "a row of as many numbers as the size of the leaf". The leaf is split, joined and brought back. */
    private static void twoRowsForALeafThatIsSplitAndJoined() {
        DUE.promise("promises 4, 7, 8, 9, 12 and 14, the leaf then");
        BlockRanks x = new BlockRanks();
        x.split(2, 0);
        x.keep();
        Due.write(x, "0,0,0,2;0,0,0,3");
        DUE.is("the size 4", x.addProduct(2, 3), 1);
        x.join(2, 3);
        DUE.is("there is no leaf 3", x.addProduct(2, 3), BlockRanks.UNKNOWN);
        DUE.is("the size 8", x.addProduct(2, 0), -107);
        x.undo();
        DUE.is("behind undo()", x.addProduct(2, 0), 1);
        x.split(2, 3);
        DUE.is("the size 2", x.addProduct(2, 3), -103);
        x.recompress(2);
        DUE.is("the size 1 of the least tree", x.addProduct(2, 3), -101);
        x.restore();
        DUE.is("behind restore()", x.addProduct(2, 3), 1);
        DUE.is("the cell", x.cell(2, 7, 7), 6);
        DUE.is("the other one", x.cell(2, 3, 3), 0);
    }

    /** Promise 21, TEXTS: "There is a text of at most 60 characters, empty at first." One for all calls that read it. */
    private static void oneTextForAllThatReadIt() {
        DUE.promise("promises 4, 5, 20 and 21, one text");
        BlockRanks x = new BlockRanks();
        Due.fillDiagonal(x, 1);
        Due.write(x, ONES);
        reads("a row", x, -115, -100, 1);
        x.type(';');
        reads("a row and ';'", x, -116, -100, -115);
        for (int i = 0; i < ONES.length(); i++) {
            x.type(ONES.charAt(i));
        }
        reads("two rows", x, 1, -100, -115);
        Due.write(x, "D=B");
        reads("a formula", x, -100, 3, -100);
        x.type('\'');
        reads("a formula with a sign", x, -100, 3, -100);
        x.type('1');
        reads("a formula and a number", x, -100, -104, -100);
        x.clearText();
        reads("nothing", x, -100, -100, -100);
    }

    private static void reads(String what, BlockRanks x, int product, int formula, int row) {
        DUE.is(what + ": addProduct", x.addProduct(0, 0), product);
        DUE.is(what + ": work", x.work(), formula);
        DUE.is(what + ": times", x.times(1, 7), row);
        DUE.is(what + ": solve", x.solve(1, 7), row);
    }

    // ---- the least tree of cells that have changed

    private static void least(String what, BlockRanks x, int table, int cost, int leaves) {
        DUE.is(what + ": cost of the least tree", x.table(table, 5), cost);
        DUE.is(what + ": leaves of it", x.table(table, 6), leaves);
    }

    /** Promise 9, BLOCKS: "The least tree of a block is no split". Of the cells as they are, whatever tree there is. */
    private static void leastTreeOfCellsThatAreSet() {
        DUE.promise("promises 3, 9 and 16, the least tree");
        BlockRanks x = new BlockRanks();
        least("zeros", x, 0, 0, 1);
        DUE.is("it has it already", x.recompress(0), BlockRanks.NONE);
        x.set(0, 0, 0, 1);
        least("one cell", x, 0, 1, 10);
        DUE.is("one cell", x.recompress(0), 1);
        DUE.is("it has it already", x.recompress(0), BlockRanks.NONE);
        x.set(0, 7, 7, 1);
        least("two cells", x, 0, 2, 16);
        DUE.is("two cells with the tree of one", x.table(0, 4), 9);
        DUE.is("two cells", x.recompress(0), 2);
        x.set(0, 0, 0, 0);
        least("the last cell", x, 0, 1, 10);
        DUE.is("the same cost with another tree", x.recompress(0), 1);
        DUE.is("leaf of the first cell", x.leaf(0, 0, 2), 4);
        DUE.is("leaf of the last cell", x.leafAt(0, 7, 7), 9);
        x.set(0, 7, 7, 0);
        least("zeros again", x, 0, 0, 1);
        DUE.is("zeros again", x.recompress(0), 0);
        DUE.is("leaves", x.table(0, 3), 1);
        least("another table", x, 1, 0, 1);
    }

    /** Promise 9, BLOCKS: "The least tree of a block is no split". Behind addProduct to leaves of each size. */
    private static void leastTreeOfProducts() {
        DUE.promise("promises 4, 9 and 16, the least tree");
        BlockRanks x = new BlockRanks();
        Due.write(x, ONES + ";" + ONES);
        DUE.is("ones", x.addProduct(0, 0), 1);
        least("ones", x, 0, 16, 1);
        DUE.is("ones", x.recompress(0), BlockRanks.NONE);
        x.split(0, 0);
        Due.write(x, "1,1,1,1;1,1,1,1");
        DUE.is("twos in the last quarter", x.addProduct(0, 3), 1);
        // 2 * 8 * 2 or four times 2 * 4: both are 32.
        least("twos in the last quarter", x, 0, 32, 1);
        Due.write(x, "1,1,1,1;100,100,100,100");
        DUE.is("ones in the last quarter", x.addProduct(0, 3), 1);
        DUE.is("zeros in the last quarter", x.addProduct(0, 3), 0);
        least("zeros in the last quarter", x, 0, 24, 4);
        DUE.is("it has it already", x.recompress(0), BlockRanks.NONE);
    }

    /** Promise 9, BLOCKS: "The least tree of a block is no split". Behind work, which leaves the tree that there is. */
    private static void leastTreeOfFormulas() {
        DUE.promise("promises 5, 9 and 16, the least tree");
        BlockRanks x = new BlockRanks();
        Due.fillDiagonal(x, 1);
        least("the diagonal", x, 1, 8, 22);
        least("zeros", x, 0, 0, 1);
        Due.write(x, "A=B");
        x.work();
        least("the diagonal as well", x, 0, 8, 22);
        DUE.is("the tree stays", x.table(0, 4), 64);
        DUE.is("recompress", x.recompress(0), 8);
        Due.write(x, "A=A-B");
        x.work();
        least("zeros again", x, 0, 0, 1);
        DUE.is("the tree stays again", x.table(0, 3), 22);
        DUE.is("zeros cost nothing", x.table(0, 4), 0);
        x.set(2, 0, 7, 5);
        Due.write(x, "A=C'");
        x.work();
        least("one cell in the lower left", x, 0, 1, 10);
        DUE.is("with the tree of the diagonal", x.table(0, 4), 8);
        DUE.is("recompress", x.recompress(0), 1);
        DUE.is("its leaf", x.leafAt(0, 7, 0), 6);
        x.undo();
        x.undo();
        least("behind undo()", x, 0, 0, 1);
    }

    /** Promise 9, BLOCKS: "The least tree of a block is no split". Of both factors, and of a table that becomes one. */
    private static void leastTreeOfFactors() {
        DUE.promise("promises 6, 9 and 16, the least tree");
        BlockRanks x = new BlockRanks();
        Due.fillDiagonal(x, 0);
        x.set(0, 7, 0, 3);
        x.set(0, 0, 7, 2);
        least("the table", x, 0, 10, 34);
        DUE.is("recompress", x.recompress(0), 10);
        x.factor(0, 0, 3);
        least("the first factor", x, 0, 9, 28);
        least("the second factor", x, 3, 9, 28);
        DUE.is("the first factor with the tree of the table", x.table(0, 4), 9);
        DUE.is("the first factor's least tree", x.recompress(0), 9);
        DUE.is("the second factor's least tree", x.recompress(3), 9);
        DUE.is("the lower left cell", x.leaf(0, x.leafAt(0, 7, 0), 2), 1);
        DUE.is("not the upper right one", x.leaf(0, x.leafAt(0, 0, 7), 2), 4);
        DUE.is("the upper right cell", x.leaf(3, x.leafAt(3, 0, 7), 2), 1);
        DUE.is("not the lower left one", x.leaf(3, x.leafAt(3, 7, 0), 2), 4);
    }

    /** Promise 9, BLOCKS: "The rank of a block is the rank of its cells modulo p." With another prime, another least tree. */
    private static void leastTreeOfAnotherPrime() {
        DUE.promise("promises 2, 9 and 16, the least tree");
        BlockRanks x = new BlockRanks();
        for (int i = 0; i < 8; i++) {
            x.set(3, i, i, i < 4 ? 2 : 3);
        }
        least("modulo 101", x, 3, 8, 22);
        DUE.is("recompress", x.recompress(3), 8);
        x.setPrime(2);
        least("modulo 2", x, 3, 4, 13);
        DUE.is("recompress modulo 2", x.recompress(3), 4);
        x.undo();
        x.undo();
        x.setPrime(3);
        least("modulo 3", x, 3, 4, 13);
        DUE.is("recompress modulo 3", x.recompress(3), 4);
        DUE.is("the first quarter is split", x.leaf(3, 0, 2), 1);
        DUE.is("the last one is not", x.leaf(3, 12, 2), 4);
    }

    /** Promise 9: "NONE if it has this tree already". The tree and the cells that undo() and restore() bring back. */
    private static void leastTreeBehindUndoAndRestore() {
        DUE.promise("promises 9, 12 and 14, the least tree");
        BlockRanks x = new BlockRanks();
        x.set(0, 0, 0, 1);
        x.recompress(0);
        x.keep();
        x.set(0, 0, 0, 0);
        DUE.is("zeros", x.recompress(0), 0);
        DUE.is("zeros have it", x.recompress(0), BlockRanks.NONE);
        x.undo();
        DUE.is("the tree of one cell, with zeros", x.table(0, 3), 10);
        DUE.is("it is not the least one", x.recompress(0), 0);
        x.undo();
        x.undo();
        DUE.is("one cell has it", x.recompress(0), BlockRanks.NONE);
        x.undo();
        DUE.is("one cell, not split", x.table(0, 4), 16);
        DUE.is("it is not the least one", x.recompress(0), 1);
        x.set(0, 0, 0, 0);
        x.recompress(0);
        x.restore();
        DUE.is("the snapshot has it", x.recompress(0), BlockRanks.NONE);
        least("behind restore()", x, 0, 1, 10);
    }

    // ---- tables that are read and changed by one call

    /** A table with factors that are known: 10 calls. */
    private static BlockRanks withFactors() {
        BlockRanks x = new BlockRanks();
        Due.fillDiagonal(x, 0);
        x.set(0, 7, 0, 3);
        x.set(0, 0, 7, 2);
        return x;
    }

    /** Promise 6: "lower: 0 to 3: the table that becomes the first factor (perhaps the table itself)". And then its own. */
    private static void factorsOfFactors() {
        DUE.promise("promises 5, 6 and 12, factors of factors");
        for (int kind = 0; kind < 2; kind++) {
            BlockRanks x = withFactors();
            int lower = kind;
            int upper = 1 - kind;
            x.keep();
            // 1 - 2 * 3
            DUE.is("the table", x.factor(0, lower, upper), 96);
            DUE.is("the first one", x.cell(lower, 7, 0), 3);
            DUE.is("the first one", x.cell(lower, 0, 7), 0);
            DUE.is("the second one", x.cell(upper, 0, 7), 2);
            DUE.is("the second one", x.cell(upper, 7, 7), 96);
            Due.write(x, kind == 0 ? "C=A*B" : "C=B*A");
            x.work();
            DUE.is("its product", x.cell(2, 7, 7), 1);
            DUE.is("its product", x.cell(2, 0, 7) * 10 + x.cell(2, 7, 0), 23);
            DUE.is("the factor that A is", x.factor(0, lower, upper), kind == 0 ? 1 : 96);
            DUE.is("its first factor", x.cell(lower, 7, 0), kind == 0 ? 3 : 0);
            DUE.is("its second factor", x.cell(upper, 0, 7), kind == 0 ? 0 : 2);
            x.undo();
            x.undo();
            x.undo();
            DUE.is("behind undo()", x.cell(0, 7, 0) * 100 + x.cell(0, 0, 7) * 10 + x.cell(0, 7, 7), 321);
            DUE.is("and once more", x.factor(0, lower, upper), 96);
            x.restore();
            DUE.is("and behind restore()", x.factor(0, upper, lower), 96);
            DUE.is("the first one", x.cell(upper, 7, 0), 3);
        }
    }

    /** Promise 6, ERRORS: "A call that returns an error or NONE changes nothing." Not the table that would become a factor. */
    private static void factorsOfATableThatCantBeFactored() {
        DUE.promise("promise 6, the table itself");
        BlockRanks x = withFactors();
        x.set(0, 6, 6, 0);
        int states = x.count(3);
        DUE.is("into itself", x.factor(0, 0, 1), BlockRanks.NOT_POSSIBLE);
        DUE.is("into itself", x.factor(0, 1, 0), BlockRanks.NOT_POSSIBLE);
        DUE.is("into both the same", x.factor(0, 0, 0), BlockRanks.BAD_VALUE);
        DUE.is("states", x.count(3), states);
        DUE.is("cells that are not 0", x.table(0, 8), 9);
        DUE.is("the other one's", x.table(1, 8), 0);
        DUE.is("a cell", x.cell(0, 7, 0), 3);
        x.setPrime(3);
        x.set(0, 6, 6, 1);
        DUE.is("modulo 3", x.factor(0, 1, 0), 1);
        DUE.is("the second factor", x.cell(0, 0, 7), 2);
    }

    /** Promise 5, TEXTS: "All letters are of tables as they are before the formula." The same formula again and again. */
    private static void formulasOfFormulas() {
        DUE.promise("promises 5, 12 and 14, formulas again");
        BlockRanks x = new BlockRanks();
        x.set(0, 0, 0, 1);
        x.set(0, 0, 7, 1);
        x.set(0, 7, 0, 1);
        x.keep();
        Due.write(x, "A=A*A");
        // The numbers of Fibonacci: the power n has those of the indexes n + 1, n and n - 1.
        int[][] powers = {{2, 1, 1}, {5, 3, 2}, {34, 21, 13}};
        for (int i = 0; i < 3; i++) {
            x.work();
            fibonacci("squared " + (i + 1) + " times", x, powers[i]);
        }
        x.undo();
        fibonacci("behind undo()", x, powers[1]);
        x.work();
        fibonacci("and squared", x, powers[2]);
        x.restore();
        x.work();
        fibonacci("behind restore(), and squared", x, powers[0]);
    }

    private static void fibonacci(String what, BlockRanks x, int[] wants) {
        DUE.is(what + ": first cell", x.cell(0, 0, 0), wants[0]);
        DUE.is(what + ": upper right", x.cell(0, 0, 7), wants[1]);
        DUE.is(what + ": lower left", x.cell(0, 7, 0), wants[1]);
        DUE.is(what + ": last cell", x.cell(0, 7, 7), wants[2]);
    }

    /** Promise 5, TEXTS: "(the table whose cells are changed; its tree stays)". The same letter on both sides. */
    private static void formulaWithOneTableThrice() {
        DUE.promise("promises 5, 7 and 16, one table");
        String[] formulas = {"B=B", "B=B'", "B=B+B", "B=B-B", "B=B*B"};
        int[][] wants = {{2, 3, 5}, {2, 5, 3}, {4, 6, 10}, {0, 0, 0}, {19, 6, 10}};
        for (int i = 0; i < formulas.length; i++) {
            BlockRanks x = new BlockRanks();
            x.set(1, 0, 0, 2);
            x.set(1, 0, 7, 3);
            x.set(1, 7, 0, 5);
            x.split(1, 0);
            x.split(1, 3);
            Due.write(x, formulas[i]);
            DUE.is(formulas[i], x.work(), 1);
            DUE.is(formulas[i] + ": first cell", x.cell(1, 0, 0), wants[i][0]);
            DUE.is(formulas[i] + ": upper right", x.cell(1, 0, 7), wants[i][1]);
            DUE.is(formulas[i] + ": lower left", x.cell(1, 7, 0), wants[i][2]);
            DUE.is(formulas[i] + ": last cell", x.cell(1, 7, 7), i == 4 ? 15 : 0);
            DUE.is(formulas[i] + ": leaves", x.table(1, 3), 7);
            x.undo();
            DUE.is(formulas[i] + " and undo()", x.cell(1, 0, 7) * 10 + x.cell(1, 7, 0), 35);
        }
    }
}
