/**
 * Promises 2 to 22, and the sentences under ERRORS: what refused calls answer, in which order it is checked, and
 * that nothing is changed by them. Behind each refusal all is looked at: cells, trees, prime, text, history, snapshot.
 * The first remark of a test names the promise and the sentence; SentencesTest compares it with the document.
 */
public final class RefusalsTest {
    private static final int LEAST = Integer.MIN_VALUE;
    private static final int GREATEST = Integer.MAX_VALUE;
    private static final String EIGHT = "1,2,3,4,5,6,0,1";
    private static final String SIXTEEN = "1,2,3,4,5,6,0,1;6,5,4,3,2,1,0,6";
    private static final String SIXTY = "100,101,102,103,104,105,106,107;200,201,202,203,204,10,11,12";

    private static final Due DUE = new Due("RefusalsTest");
    private static final Look LOOK = new Look(DUE);

    /** A call of the class. */
    private interface Call {
        int on(BlockRanks x);
    }

    public static void main(String[] args) {
        setPrimeChangesNothing();
        setChangesNothing();
        addProductChangesNothing();
        workChangesNothing();
        factorChangesNothing();
        splitChangesNothing();
        joinChangesNothing();
        recompressChangesNothing();
        typeChangesNothing();
        undoChangesNothing();
        restoreChangesNothing();
        cellChangesNothing();
        tableChangesNothing();
        leafChangesNothing();
        leafAtChangesNothing();
        differChangesNothing();
        timesChangesNothing();
        solveChangesNothing();
        countChangesNothing();
        orderOfSet();
        orderOfAddProduct();
        orderOfFactor();
        orderOfSplitAndJoin();
        orderOfTable();
        orderOfLeaf();
        orderOfTimes();
        orderOfSolve();
        noneOnlyIfNoErrorApplies();
        theConstants();
        DUE.finish();
    }

    // ---- a state in which every kind of refusal can be met

    /**
     * The prime 7. A is not split, its determinant is 0 and so is its first cell. B has leaves of the sizes 1 (0 to 3),
     * 2 (4 to 6) and 4 (7 to 9). C is made of zeros and has its least tree. D has 1 on its diagonal.
     * The snapshot is another state. Some 120 calls with the longest text.
     */
    private static void prepare(BlockRanks x, int states, boolean isKept, String text) {
        x.setPrime(11);
        Due.fill(x, 0, new int[][] {{0, 1, 2}, {3, 4, 5}, {6, 0, 1}});
        Due.fill(x, 1, new int[][] {{1, 2, 3, 4}, {0, 5}});
        x.set(1, 5, 5, 10);
        Due.fillDiagonal(x, 3);
        Due.write(x, "C=B*B");
        x.work();
        x.split(1, 0);
        x.split(1, 0);
        x.split(1, 0);
        if (isKept) {
            x.keep();
        }
        Due.write(x, "C=D-D");
        x.work();
        // Whichever acts come before the history is emptied: the state in the end is the same.
        for (int act = 0; act < 4; act++) {
            if (act == 4 - states) {
                emptyHistory(x);
            }
            act(x, act);
        }
        if (states == 0) {
            emptyHistory(x);
        }
        Due.write(x, text);
    }

    private static void act(BlockRanks x, int number) {
        if (number == 0) {
            x.setPrime(7);
        } else if (number == 1) {
            x.split(0, 0);
        } else if (number == 2) {
            x.join(0, 3);
        } else {
            x.set(1, 0, 7, 3);
        }
    }

    private static void emptyHistory(BlockRanks x) {
        for (int i = 1; i <= 4; i++) {
            x.set(2, 7, 0, i);
        }
        for (int i = 0; i < 4; i++) {
            x.undo();
        }
    }

    private static void refused(String name, String text, int due, Call call) {
        for (int states : new int[] {0, 2, 4}) {
            refused(name, text, due, call, states, true);
        }
    }

    private static void refused(String name, String text, int due, Call call, int states, boolean isKept) {
        Look.Steps before = x -> prepare(x, states, isKept, text);
        BlockRanks x = new BlockRanks();
        before.on(x);
        DUE.is("states", x.count(3), states);
        DUE.is(name, call.on(x), due);
        Look.Steps behind = y -> {
            before.on(y);
            call.on(y);
        };
        LOOK.same(name + ", from " + states + " states", behind, before);
    }

    // ---- nothing is changed

    /** Promise 2, ERRORS: "A call that returns an error or NONE changes nothing." */
    private static void setPrimeChangesNothing() {
        DUE.promise("promise 2, refused");
        for (int prime : new int[] {LEAST, -7, -1, 0, 1, 4, 9, 249, 252, 257, GREATEST}) {
            refused("setPrime(" + prime + ")", EIGHT, BlockRanks.BAD_VALUE, x -> x.setPrime(prime));
        }
        refused("setPrime(7)", EIGHT, BlockRanks.NONE, x -> x.setPrime(7));
    }

    /** Promise 3, ERRORS: "A call that returns an error or NONE changes nothing." */
    private static void setChangesNothing() {
        DUE.promise("promise 3, refused");
        for (int wrong : new int[] {LEAST, -1, 4, GREATEST}) {
            refused("table " + wrong, EIGHT, BlockRanks.UNKNOWN, x -> x.set(wrong, 1, 1, 6));
        }
        for (int wrong : new int[] {LEAST, -1, 8, GREATEST}) {
            refused("row " + wrong, EIGHT, BlockRanks.UNKNOWN, x -> x.set(0, wrong, 1, 6));
            refused("column " + wrong, EIGHT, BlockRanks.UNKNOWN, x -> x.set(0, 1, wrong, 6));
        }
        for (int wrong : new int[] {LEAST, -1, 7, 8, GREATEST}) {
            refused("value " + wrong, EIGHT, BlockRanks.BAD_VALUE, x -> x.set(0, 1, 1, wrong));
        }
        refused("it is so already", EIGHT, BlockRanks.NONE, x -> x.set(0, 1, 1, 4));
        refused("it is 0 already", EIGHT, BlockRanks.NONE, x -> x.set(2, 7, 7, 0));
    }

    /** Promise 4, ERRORS: "A call that returns an error or NONE changes nothing." */
    private static void addProductChangesNothing() {
        DUE.promise("promise 4, refused");
        for (int wrong : new int[] {LEAST, -1, 4, GREATEST}) {
            refused("table " + wrong, SIXTEEN, BlockRanks.UNKNOWN, x -> x.addProduct(wrong, 0));
        }
        for (int wrong : new int[] {LEAST, -1, 1, GREATEST}) {
            refused("leaf " + wrong, SIXTEEN, BlockRanks.UNKNOWN, x -> x.addProduct(0, wrong));
        }
        refused("leaf 10", "1;1", BlockRanks.UNKNOWN, x -> x.addProduct(1, 10));
        refused("the empty text", "", -100, x -> x.addProduct(0, 0));
        refused("a number too few", "1,2,3,4,5,6,0,1;6,5,4,3,2,1,0", -129, x -> x.addProduct(0, 0));
        refused("a number too many", SIXTEEN + ",1", -131, x -> x.addProduct(0, 0));
        refused("rows for another size", SIXTEEN, -101, x -> x.addProduct(1, 3));
        refused("the last number is p", "1,2,3,4,5,6,0,1;6,5,4,3,2,1,0,7", BlockRanks.BAD_VALUE, x -> x.addProduct(0, 0));
        refused("the first number is p", "7;1", BlockRanks.BAD_VALUE, x -> x.addProduct(1, 0));
        refused("all numbers are greater than p", SIXTY, BlockRanks.BAD_VALUE, x -> x.addProduct(2, 0));
    }

    /** Promise 5, ERRORS: "A call that returns an error or NONE changes nothing." */
    private static void workChangesNothing() {
        DUE.promise("promise 5, refused");
        String[] texts = {"", "A", "A=", "A=B+", "A=B*", "A=B'C", "A=B-C-", "A=B-E", "E=A", EIGHT};
        int[] faults = {0, 1, 2, 4, 4, 4, 5, 4, 0, 0};
        for (int i = 0; i < texts.length; i++) {
            refused("work() with '" + texts[i] + "'", texts[i], -100 - faults[i], BlockRanks::work);
        }
    }

    /** Promise 6, ERRORS: "A call that returns an error or NONE changes nothing." */
    private static void factorChangesNothing() {
        DUE.promise("promise 6, refused");
        for (int wrong : new int[] {LEAST, -1, 4, GREATEST}) {
            refused("table " + wrong, EIGHT, BlockRanks.UNKNOWN, x -> x.factor(wrong, 0, 1));
            refused("lower " + wrong, EIGHT, BlockRanks.UNKNOWN, x -> x.factor(3, wrong, 1));
            refused("upper " + wrong, EIGHT, BlockRanks.UNKNOWN, x -> x.factor(3, 1, wrong));
        }
        refused("the same", EIGHT, BlockRanks.BAD_VALUE, x -> x.factor(3, 1, 1));
        refused("the table itself twice", EIGHT, BlockRanks.BAD_VALUE, x -> x.factor(3, 3, 3));
        refused("the first number is 0", EIGHT, BlockRanks.NOT_POSSIBLE, x -> x.factor(0, 1, 2));
        refused("the first number is 0, in its own place", EIGHT, BlockRanks.NOT_POSSIBLE, x -> x.factor(0, 0, 2));
        // The first numbers of B's diagonal are 1 and 5, the third one is 0.
        refused("the third number is 0", EIGHT, BlockRanks.NOT_POSSIBLE, x -> x.factor(1, 2, 1));
        refused("the third number is 0, upper first", EIGHT, BlockRanks.NOT_POSSIBLE, x -> x.factor(1, 3, 0));
    }

    /** Promise 7, ERRORS: "A call that returns an error or NONE changes nothing." */
    private static void splitChangesNothing() {
        DUE.promise("promise 7, refused");
        for (int wrong : new int[] {LEAST, -1, 4, GREATEST}) {
            refused("table " + wrong, EIGHT, BlockRanks.UNKNOWN, x -> x.split(wrong, 0));
        }
        for (int wrong : new int[] {LEAST, -1, 10, GREATEST}) {
            refused("leaf " + wrong, EIGHT, BlockRanks.UNKNOWN, x -> x.split(1, wrong));
        }
        for (int leaf = 0; leaf < 4; leaf++) {
            int small = leaf;
            refused("the size 1, leaf " + leaf, EIGHT, BlockRanks.NOT_POSSIBLE, x -> x.split(1, small));
        }
    }

    /** Promise 8, ERRORS: "A call that returns an error or NONE changes nothing." */
    private static void joinChangesNothing() {
        DUE.promise("promise 8, refused");
        for (int wrong : new int[] {LEAST, -1, 4, GREATEST}) {
            refused("table " + wrong, EIGHT, BlockRanks.UNKNOWN, x -> x.join(wrong, 0));
        }
        for (int wrong : new int[] {LEAST, -1, 10, GREATEST}) {
            refused("leaf " + wrong, EIGHT, BlockRanks.UNKNOWN, x -> x.join(1, wrong));
        }
        refused("no split", EIGHT, BlockRanks.NOT_POSSIBLE, x -> x.join(0, 0));
        for (int leaf = 4; leaf < 10; leaf++) {
            int beside = leaf;
            refused("beside a split, leaf " + leaf, EIGHT, BlockRanks.NOT_POSSIBLE, x -> x.join(1, beside));
        }
    }

    /** Promise 9, ERRORS: "A call that returns an error or NONE changes nothing." */
    private static void recompressChangesNothing() {
        DUE.promise("promise 9, refused");
        for (int wrong : new int[] {LEAST, -1, 4, GREATEST}) {
            refused("table " + wrong, EIGHT, BlockRanks.UNKNOWN, x -> x.recompress(wrong));
        }
        refused("it has this tree already", EIGHT, BlockRanks.NONE, x -> x.recompress(2));
    }

    /** Promise 10, ERRORS: "A call that returns an error or NONE changes nothing." */
    private static void typeChangesNothing() {
        DUE.promise("promise 10, refused");
        for (char sign : new char[] {0, '1', ',', 'A', 0xffff}) {
            refused("type((char) " + (int) sign + ")", SIXTY, BlockRanks.FULL, x -> x.type(sign));
        }
    }

    /** Promise 12, ERRORS: "A call that returns an error or NONE changes nothing." */
    private static void undoChangesNothing() {
        DUE.promise("promise 12, refused");
        refused("undo()", EIGHT, BlockRanks.NONE, BlockRanks::undo, 0, true);
        refused("undo() twice", SIXTEEN, BlockRanks.NONE, x -> Math.max(x.undo(), x.undo()), 0, false);
    }

    /** Promise 14, ERRORS: "A call that returns an error or NONE changes nothing." */
    private static void restoreChangesNothing() {
        DUE.promise("promise 14, refused");
        for (int states : new int[] {0, 2, 4}) {
            refused("restore()", EIGHT, BlockRanks.NONE, BlockRanks::restore, states, false);
        }
    }

    /** Promise 15, ERRORS: "A call that returns an error or NONE changes nothing." */
    private static void cellChangesNothing() {
        DUE.promise("promise 15, refused");
        refused("table 4", EIGHT, BlockRanks.UNKNOWN, x -> x.cell(4, 0, 0));
        refused("row -1", EIGHT, BlockRanks.UNKNOWN, x -> x.cell(0, -1, 0));
        refused("column 8", EIGHT, BlockRanks.UNKNOWN, x -> x.cell(0, 0, 8));
    }

    /** Promise 16, ERRORS: "A call that returns an error or NONE changes nothing." */
    private static void tableChangesNothing() {
        DUE.promise("promise 16, refused");
        refused("table 4", EIGHT, BlockRanks.UNKNOWN, x -> x.table(4, 5));
        refused("what -1", EIGHT, BlockRanks.BAD_VALUE, x -> x.table(0, -1));
        refused("what 9", EIGHT, BlockRanks.BAD_VALUE, x -> x.table(0, 9));
    }

    /** Promise 17, ERRORS: "A call that returns an error or NONE changes nothing." */
    private static void leafChangesNothing() {
        DUE.promise("promise 17, refused");
        refused("table -1", EIGHT, BlockRanks.UNKNOWN, x -> x.leaf(-1, 0, 0));
        refused("leaf 10", EIGHT, BlockRanks.UNKNOWN, x -> x.leaf(1, 10, 0));
        refused("what 6", EIGHT, BlockRanks.BAD_VALUE, x -> x.leaf(1, 9, 6));
    }

    /** Promise 18, ERRORS: "A call that returns an error or NONE changes nothing." */
    private static void leafAtChangesNothing() {
        DUE.promise("promise 18, refused");
        refused("table 4", EIGHT, BlockRanks.UNKNOWN, x -> x.leafAt(4, 0, 0));
        refused("row 8", EIGHT, BlockRanks.UNKNOWN, x -> x.leafAt(0, 8, 0));
        refused("column -1", EIGHT, BlockRanks.UNKNOWN, x -> x.leafAt(0, 0, -1));
    }

    /** Promise 19, ERRORS: "A call that returns an error or NONE changes nothing." */
    private static void differChangesNothing() {
        DUE.promise("promise 19, refused");
        refused("table 4", EIGHT, BlockRanks.UNKNOWN, x -> x.differ(4, 0));
        refused("other -1", EIGHT, BlockRanks.UNKNOWN, x -> x.differ(0, -1));
    }

    /** Promise 20, ERRORS: "A call that returns an error or NONE changes nothing." */
    private static void timesChangesNothing() {
        DUE.promise("promise 20, refused");
        refused("table 4", EIGHT, BlockRanks.UNKNOWN, x -> x.times(4, 0));
        refused("place 8", EIGHT, BlockRanks.BAD_VALUE, x -> x.times(3, 8));
        refused("the empty text", "", -100, x -> x.times(3, 0));
        refused("a number too many", EIGHT + ",1", -115, x -> x.times(3, 0));
        refused("the first number is p", "7,2,3,4,5,6,0,1", BlockRanks.BAD_VALUE, x -> x.times(3, 0));
        refused("the last number is p", "1,2,3,4,5,6,0,7", BlockRanks.BAD_VALUE, x -> x.times(3, 0));
    }

    /** Promise 21, ERRORS: "A call that returns an error or NONE changes nothing." */
    private static void solveChangesNothing() {
        DUE.promise("promise 21, refused");
        refused("table -1", EIGHT, BlockRanks.UNKNOWN, x -> x.solve(-1, 0));
        refused("place -1", EIGHT, BlockRanks.BAD_VALUE, x -> x.solve(3, -1));
        refused("the empty text", "", -100, x -> x.solve(3, 0));
        refused("a number too few", "1,2,3,4,5,6,0", -113, x -> x.solve(3, 0));
        refused("a number is p", "7,2,3,4,5,6,0,1", BlockRanks.BAD_VALUE, x -> x.solve(3, 0));
        refused("the determinant is 0", EIGHT, BlockRanks.NOT_POSSIBLE, x -> x.solve(0, 0));
    }

    /** Promise 22, ERRORS: "A call that returns an error or NONE changes nothing." */
    private static void countChangesNothing() {
        DUE.promise("promise 22, refused");
        for (int wrong : new int[] {LEAST, -1, 5, GREATEST}) {
            refused("count(" + wrong + ")", EIGHT, BlockRanks.BAD_VALUE, x -> x.count(wrong));
        }
    }

    // ---- the order of the checks

    private static BlockRanks prepared(String text) {
        BlockRanks x = new BlockRanks();
        prepare(x, 0, true, text);
        return x;
    }

    /** Promise 3, ERRORS: "Where several errors can apply, the order of the @return line is the order of the checks." */
    private static void orderOfSet() {
        DUE.promise("promise 3, order");
        BlockRanks x = prepared("");
        for (int value : Due.outside(7)) {
            DUE.is("table and value", x.set(4, 0, 0, value), BlockRanks.UNKNOWN);
            DUE.is("row and value", x.set(0, -1, 0, value), BlockRanks.UNKNOWN);
            DUE.is("column and value", x.set(0, 0, 8, value), BlockRanks.UNKNOWN);
            DUE.is("all of them", x.set(-1, 8, -1, value), BlockRanks.UNKNOWN);
            DUE.is("value alone", x.set(0, 0, 0, value), BlockRanks.BAD_VALUE);
        }
    }

    /** Promise 4, ERRORS: "Where several errors can apply, the order of the @return line is the order of the checks." */
    private static void orderOfAddProduct() {
        DUE.promise("promise 4, order");
        for (String text : new String[] {"", "x", "7;x", "999;999"}) {
            BlockRanks x = prepared(text);
            DUE.is("table and text", x.addProduct(4, 0), BlockRanks.UNKNOWN);
            DUE.is("leaf and text", x.addProduct(1, 10), BlockRanks.UNKNOWN);
            DUE.is("leaf of another table and text", x.addProduct(0, 9), BlockRanks.UNKNOWN);
        }
        DUE.is("the first number and the second row", prepared("7;x").addProduct(1, 0), -102);
        DUE.is("both numbers and the end", prepared("999;9999").addProduct(1, 0), -107);
        DUE.is("numbers and one too many", prepared("9;9,9").addProduct(1, 0), -103);
        DUE.is("numbers and none behind them", prepared("9;").addProduct(1, 0), -102);
        DUE.is("numbers alone", prepared("9;9").addProduct(1, 0), BlockRanks.BAD_VALUE);
    }

    /** Promise 6, ERRORS: "Where several errors can apply, the order of the @return line is the order of the checks." */
    private static void orderOfFactor() {
        DUE.promise("promise 6, order");
        BlockRanks x = prepared("");
        for (int wrong : Due.outside(4)) {
            DUE.is("the same, and no table", x.factor(wrong, 1, 1), BlockRanks.UNKNOWN);
            DUE.is("the same, and not tables", x.factor(3, wrong, wrong), BlockRanks.UNKNOWN);
            DUE.is("not possible, and lower is none", x.factor(0, wrong, 1), BlockRanks.UNKNOWN);
            DUE.is("not possible, and upper is none", x.factor(0, 1, wrong), BlockRanks.UNKNOWN);
        }
        DUE.is("not possible, and the same", x.factor(0, 1, 1), BlockRanks.BAD_VALUE);
        DUE.is("not possible, and the table itself twice", x.factor(0, 0, 0), BlockRanks.BAD_VALUE);
        DUE.is("not possible alone", x.factor(0, 1, 2), BlockRanks.NOT_POSSIBLE);
    }

    /** Promise 8, ERRORS: "Where several errors can apply, the order of the @return line is the order of the checks." */
    private static void orderOfSplitAndJoin() {
        DUE.promise("promise 7, order");
        BlockRanks x = prepared("");
        // B's first leaves have the size 1; there are no such leaves in A, and no such table.
        DUE.is("the size 1", x.split(1, 1), BlockRanks.NOT_POSSIBLE);
        DUE.is("no leaf of A", x.split(0, 1), BlockRanks.UNKNOWN);
        DUE.is("no table", x.split(5, 1), BlockRanks.UNKNOWN);
        DUE.promise("promise 8, order");
        DUE.is("not split", x.join(0, 0), BlockRanks.NOT_POSSIBLE);
        DUE.is("not split, and no leaf", x.join(0, 1), BlockRanks.UNKNOWN);
        DUE.is("no table", x.join(4, 0), BlockRanks.UNKNOWN);
    }

    /** Promise 16, ERRORS: "Where several errors can apply, the order of the @return line is the order of the checks." */
    private static void orderOfTable() {
        DUE.promise("promise 16, order");
        BlockRanks x = prepared("");
        for (int what : Due.outside(9)) {
            for (int table : Due.outside(4)) {
                DUE.is("table " + table + " and what " + what, x.table(table, what), BlockRanks.UNKNOWN);
            }
            DUE.is("what " + what, x.table(3, what), BlockRanks.BAD_VALUE);
        }
    }

    /** Promise 17, ERRORS: "Where several errors can apply, the order of the @return line is the order of the checks." */
    private static void orderOfLeaf() {
        DUE.promise("promise 17, order");
        BlockRanks x = prepared("");
        for (int what : Due.outside(6)) {
            for (int leaf : Due.outside(10)) {
                DUE.is("leaf " + leaf + " and what " + what, x.leaf(1, leaf, what), BlockRanks.UNKNOWN);
            }
            DUE.is("table and what " + what, x.leaf(4, 0, what), BlockRanks.UNKNOWN);
            DUE.is("what " + what, x.leaf(1, 9, what), BlockRanks.BAD_VALUE);
        }
    }

    /** Promise 20, ERRORS: "Where several errors can apply, the order of the @return line is the order of the checks." */
    private static void orderOfTimes() {
        DUE.promise("promise 20, order");
        for (String text : new String[] {"", "x", "7,7,7,7,7,7,7,7", EIGHT}) {
            BlockRanks x = prepared(text);
            DUE.is("table, place and text", x.times(4, 8), BlockRanks.UNKNOWN);
            DUE.is("table and text", x.times(-1, 0), BlockRanks.UNKNOWN);
            DUE.is("place and text", x.times(3, 8), BlockRanks.BAD_VALUE);
            DUE.is("another place and text", x.times(3, -1), BlockRanks.BAD_VALUE);
        }
        DUE.is("a fault and a number", prepared("7,7,7,7,7,7,7,7,").times(3, 0), -115);
        DUE.is("a fault behind a number", prepared("999,1,x").times(3, 0), -106);
        DUE.is("a number alone", prepared("7,7,7,7,7,7,7,7").times(3, 0), BlockRanks.BAD_VALUE);
    }

    /** Promise 21, ERRORS: "Where several errors can apply, the order of the @return line is the order of the checks." */
    private static void orderOfSolve() {
        DUE.promise("promise 21, order");
        // The determinant of A is 0.
        for (String text : new String[] {"", "x", "7,7,7,7,7,7,7,7", EIGHT}) {
            BlockRanks x = prepared(text);
            DUE.is("table, place, text and determinant", x.solve(4, 8), BlockRanks.UNKNOWN);
            DUE.is("table and text", x.solve(-1, 0), BlockRanks.UNKNOWN);
            DUE.is("place, text and determinant", x.solve(0, 8), BlockRanks.BAD_VALUE);
            DUE.is("another place", x.solve(0, -1), BlockRanks.BAD_VALUE);
        }
        DUE.is("a fault, a number and the determinant", prepared("7,7,7,7,7,7,7,7,").solve(0, 0), -115);
        DUE.is("a fault and the determinant", prepared("").solve(0, 0), -100);
        DUE.is("a number and the determinant", prepared("7,7,7,7,7,7,7,7").solve(0, 0), BlockRanks.BAD_VALUE);
        DUE.is("the last number and the determinant", prepared("0,0,0,0,0,0,0,7").solve(0, 0), BlockRanks.BAD_VALUE);
        DUE.is("the determinant alone", prepared(EIGHT).solve(0, 0), BlockRanks.NOT_POSSIBLE);
    }

    /** Promise 3, ERRORS: "NONE is no error; it is returned only if no error applies." */
    private static void noneOnlyIfNoErrorApplies() {
        DUE.promise("promise 3, NONE only if no error applies");
        BlockRanks x = new BlockRanks();
        for (int wrong : Due.outside(8)) {
            DUE.is("no such row, and 0", x.set(0, wrong, 0, 0), BlockRanks.UNKNOWN);
            DUE.is("no such column, and 0", x.set(0, 0, wrong, 0), BlockRanks.UNKNOWN);
            DUE.is("no such table, and 0", x.set(wrong, 0, 0, 0), BlockRanks.UNKNOWN);
        }
        DUE.is("0 already", x.set(0, 0, 0, 0), BlockRanks.NONE);
        DUE.promise("promise 9, NONE only if no error applies");
        DUE.is("no such table", x.recompress(4), BlockRanks.UNKNOWN);
        DUE.is("zeros", x.recompress(3), BlockRanks.NONE);
    }

    /** Promise 1, ERRORS: "Errors are reported by the constants below." Each with its number. */
    private static void theConstants() {
        DUE.promise("promise 1, the constants");
        DUE.is("UNKNOWN", BlockRanks.UNKNOWN, -1);
        DUE.is("BAD_VALUE", BlockRanks.BAD_VALUE, -2);
        DUE.is("FULL", BlockRanks.FULL, -3);
        DUE.is("NOT_POSSIBLE", BlockRanks.NOT_POSSIBLE, -4);
        DUE.is("NONE", BlockRanks.NONE, -5);
    }
}
