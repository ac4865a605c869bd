/**
 * Promises 15 to 22: a test for each sentence, at its edges.
 * The first remark of a test names the promise and the sentence; SentencesTest compares it with the document.
 */
public final class ToldEdgesTest {
    private static final String ONES = "1,1,1,1,1,1,1,1";

    private static final Due DUE = new Due("ToldEdgesTest");

    public static void main(String[] args) {
        cellTables();
        cellRows();
        cellColumns();
        cellReturnsTheCell();
        tableTables();
        tableWhats();
        tableRank();
        tableDeterminant();
        tableDeterminantIsModuloThePrime();
        tableDiagonal();
        tableLeaves();
        tableCost();
        tableCostOfTheLeastTree();
        tableLeavesOfTheLeastTree();
        tableGreatestRank();
        tableCellsThatAreNotZero();
        leafTables();
        leafLeaves();
        leafWhats();
        leafPlaces();
        leafRank();
        leafCost();
        leafWhetherThatIsTheCostOfItsRank();
        leafAtTables();
        leafAtRows();
        leafAtColumns();
        leafAtReturnsTheLeaf();
        differComparesTwoTables();
        differTables();
        differOthers();
        differReturnsHowManyCells();
        timesTables();
        timesPlaces();
        timesMultipliesByAColumn();
        timesWrapsAround();
        timesWithAFault();
        timesWithNumbersNotLessThanThePrime();
        solveTables();
        solvePlaces();
        solveGivesTheRow();
        solveWithAFault();
        solveWithNumbersNotLessThanThePrime();
        solveWithoutADeterminant();
        solveWithADeterminantModuloThePrime();
        countWhats();
        countThePrime();
        countTheCostOfAllTables();
        countAllLeaves();
        countTheStates();
        countTheText();
        DUE.finish();
    }

    // ---- promise 15

    /** A different number at each end of each table. */
    private static BlockRanks corners() {
        BlockRanks x = new BlockRanks();
        for (int table = 0; table < 4; table++) {
            for (int corner = 0; corner < 4; corner++) {
                x.set(table, corner / 2 * 7, corner % 2 * 7, 10 * table + corner + 1);
            }
        }
        return x;
    }

    /** Promise 15: "table: 0 to 3". */
    private static void cellTables() {
        DUE.promise("promise 15, table");
        BlockRanks x = corners();
        for (int table = 0; table < 4; table++) {
            DUE.is("table " + table, x.cell(table, 0, 0), 10 * table + 1);
        }
        for (int table : Due.outside(4)) {
            DUE.is("table " + table, x.cell(table, 0, 0), BlockRanks.UNKNOWN);
        }
    }

    /** Promise 15: "row: 0 to 7". */
    private static void cellRows() {
        DUE.promise("promise 15, row");
        BlockRanks x = corners();
        for (int row = 0; row < 8; row++) {
            DUE.is("row " + row, x.cell(2, row, 7), row == 0 ? 22 : row == 7 ? 24 : 0);
        }
        for (int row : Due.outside(8)) {
            DUE.is("row " + row, x.cell(2, row, 7), BlockRanks.UNKNOWN);
        }
    }

    /** Promise 15: "column: 0 to 7". */
    private static void cellColumns() {
        DUE.promise("promise 15, column");
        BlockRanks x = corners();
        for (int column = 0; column < 8; column++) {
            DUE.is("column " + column, x.cell(2, 7, column), column == 0 ? 23 : column == 7 ? 24 : 0);
        }
        for (int column : Due.outside(8)) {
            DUE.is("column " + column, x.cell(2, 7, column), BlockRanks.UNKNOWN);
        }
    }

    /** Promise 15: "Returns the cell". 0 and p - 1 too, for the least and the greatest prime. */
    private static void cellReturnsTheCell() {
        DUE.promise("promise 15, the cell");
        for (int prime : new int[] {2, 251}) {
            BlockRanks x = new BlockRanks();
            x.setPrime(prime);
            DUE.is("0", x.cell(1, 3, 4), 0);
            x.set(1, 3, 4, prime - 1);
            DUE.is("p - 1", x.cell(1, 3, 4), prime - 1);
            DUE.is("rows are no columns", x.cell(1, 4, 3), 0);
        }
    }

    // ---- promise 16

    /** Promise 16: "table: 0 to 3". */
    private static void tableTables() {
        DUE.promise("promise 16, table");
        BlockRanks x = new BlockRanks();
        for (int table = 0; table < 4; table++) {
            for (int i = 0; i <= table; i++) {
                x.set(table, i, i, 2);
            }
        }
        for (int table = 0; table < 4; table++) {
            DUE.is("rank of table " + table, x.table(table, 0), table + 1);
            DUE.is("cells of table " + table, x.table(table, 8), table + 1);
        }
        for (int table : Due.outside(4)) {
            for (int what = 0; what < 9; what++) {
                DUE.is("table " + table + ", what " + what, x.table(table, what), BlockRanks.UNKNOWN);
            }
        }
    }

    /** Promise 16: "what: 0 for its rank". The first and the last number, and the next ones. */
    private static void tableWhats() {
        DUE.promise("promise 16, what");
        BlockRanks x = new BlockRanks();
        Due.fill(x, 1, new int[][] {{2, 0, 3}, {0, 5}});
        x.split(1, 0);
        int[] numbers = {2, 0, 7, 4, 16, 3, 13, 2, 3};
        for (int what = 0; what < 9; what++) {
            DUE.is("what " + what, x.table(1, what), numbers[what]);
        }
        for (int what : Due.outside(9)) {
            DUE.is("what " + what, x.table(1, what), BlockRanks.BAD_VALUE);
        }
    }

    /** Promise 16: "0 for its rank". From 0 to 8, whatever tree the table has. */
    private static void tableRank() {
        DUE.promise("promise 16, its rank");
        BlockRanks x = new BlockRanks();
        Due.splitAll(x, 0);
        for (int rank = 0; rank <= 8; rank++) {
            DUE.is("rank", x.table(0, 0), rank);
            if (rank < 8) {
                x.set(0, 7 - rank, (rank * 3 + 1) % 8, 100);
            }
        }
        BlockRanks y = new BlockRanks();
        Due.write(y, ONES + ";" + ONES);
        y.addProduct(2, 0);
        DUE.is("ones alone", y.table(2, 0), 1);
        y.set(2, 7, 7, 2);
        DUE.is("ones and the last number", y.table(2, 0), 2);
    }

    /** Promise 16: "1 for its determinant". 0, 1 and p - 1, with each number of exchanges of two rows. */
    private static void tableDeterminant() {
        DUE.promise("promise 16, its determinant");
        for (int prime : new int[] {2, 3, 101, 251}) {
            BlockRanks x = new BlockRanks();
            x.setPrime(prime);
            DUE.is("zeros", x.table(0, 1), 0);
            Due.fillDiagonal(x, 0);
            DUE.is("1 on the diagonal", x.table(0, 1), 1);
            int want = 1;
            for (int i = 0; i < 7; i++) {
                // The 1 of the last column goes up by the exchange of the rows i and i + 1.
                exchange(x, i, i + 1);
                want = prime - want;
                DUE.is(i + 1 + " exchanges", x.table(0, 1), want % prime);
            }
            x.set(0, 7, 0, 0);
            DUE.is("a row of zeros", x.table(0, 1), 0);
        }
    }

    private static void exchange(BlockRanks x, int upper, int lower) {
        for (int column = 0; column < 8; column++) {
            int value = x.cell(0, upper, column);
            x.set(0, upper, column, x.cell(0, lower, column));
            x.set(0, lower, column, value);
        }
    }

    /** Promise 16, TABLES: "All sums and products are modulo p". The determinant where it wraps around to 0 and to 1. */
    private static void tableDeterminantIsModuloThePrime() {
        DUE.promise("promise 16, the determinant modulo p");
        for (int prime : new int[] {5, 101, 251}) {
            BlockRanks x = new BlockRanks();
            x.setPrime(prime);
            for (int i = 0; i < 8; i++) {
                x.set(0, i, i, prime - 1);
            }
            DUE.is("(p - 1) to the power 8", x.table(0, 1), 1);
            x.set(0, 7, 7, 1);
            DUE.is("(p - 1) to the power 7", x.table(0, 1), prime - 1);
        }
        BlockRanks x = new BlockRanks();
        Due.fillDiagonal(x, 0);
        Due.fill(x, 0, new int[][] {{10, 1}, {0, 10}});
        DUE.is("100", x.table(0, 1), 100);
        x.set(0, 1, 0, 100);
        DUE.is("100 - 100", x.table(0, 1), 0);
        x.set(0, 1, 0, 99);
        DUE.is("100 - 99", x.table(0, 1), 1);
        x.set(0, 0, 1, 100);
        DUE.is("100 + 99", x.table(0, 1), 98);
    }

    /** Promise 16: "2 for the sum of its diagonal (modulo p)". At p - 1, p, and the greatest sum. */
    private static void tableDiagonal() {
        DUE.promise("promise 16, the sum of its diagonal");
        BlockRanks x = new BlockRanks();
        x.set(3, 0, 0, 100);
        DUE.is("p - 1", x.table(3, 2), 100);
        x.set(3, 7, 7, 1);
        DUE.is("p", x.table(3, 2), 0);
        x.set(3, 7, 7, 2);
        DUE.is("p + 1", x.table(3, 2), 1);
        x.set(3, 0, 7, 50);
        x.set(3, 7, 0, 50);
        DUE.is("the other diagonal", x.table(3, 2), 1);
        for (int i = 0; i < 8; i++) {
            x.set(3, i, i, 100);
        }
        DUE.is("8 * (p - 1)", x.table(3, 2), 93);
    }

    /** Promise 16: "3 for its leaves". From 1 to 64. */
    private static void tableLeaves() {
        DUE.promise("promise 16, its leaves");
        BlockRanks x = new BlockRanks();
        DUE.is("no split", x.table(2, 3), 1);
        x.split(2, 0);
        DUE.is("one split", x.table(2, 3), 4);
        DUE.is("another table", x.table(1, 3), 1);
        x.join(2, 0);
        Due.splitAll(x, 2);
        DUE.is("all splits", x.table(2, 3), 64);
    }

    /** Promise 16: "4 for its cost". From 0 to 64. */
    private static void tableCost() {
        DUE.promise("promise 16, its cost");
        BlockRanks x = new BlockRanks();
        DUE.is("zeros", x.table(1, 4), 0);
        Due.write(x, ONES + ";" + ONES);
        x.addProduct(1, 0);
        DUE.is("the rank 1", x.table(1, 4), 16);
        x.split(1, 0);
        DUE.is("four leaves of the rank 1", x.table(1, 4), 32);
        x.split(1, 0);
        DUE.is("a leaf of the rank 1, in full", x.table(1, 4), 40);
        x.join(1, 0);
        x.join(1, 0);
        Due.splitAll(x, 1);
        DUE.is("all in full", x.table(1, 4), 64);
    }

    /** Promise 16: "5 for the cost of its least tree". Not of the tree that it has; from 0 to 64. */
    private static void tableCostOfTheLeastTree() {
        DUE.promise("promise 16, the cost of its least tree");
        BlockRanks x = new BlockRanks();
        Due.splitAll(x, 1);
        DUE.is("zeros", x.table(1, 5), 0);
        x.set(1, 7, 7, 1);
        DUE.is("one number", x.table(1, 5), 1);
        BlockRanks y = powers();
        DUE.is("powers", y.table(0, 5), 64);
        y.set(0, 3, 3, 0);
        DUE.is("powers but one", y.table(0, 5), 63);
        DUE.is("its cost", y.table(0, 4), 64);
    }

    /** A table without zeros in which each block has the full rank: 64 calls. */
    private static BlockRanks powers() {
        BlockRanks x = new BlockRanks();
        for (int row = 0; row < 8; row++) {
            int power = 1;
            for (int column = 0; column < 8; column++) {
                x.set(0, row, column, power);
                power = power * (row + 1) % 101;
            }
        }
        return x;
    }

    /** Promise 16: "6 for the leaves of that". From 1 to 64. */
    private static void tableLeavesOfTheLeastTree() {
        DUE.promise("promise 16, the leaves of its least tree");
        BlockRanks x = new BlockRanks();
        Due.splitAll(x, 1);
        DUE.is("zeros", x.table(1, 6), 1);
        x.set(1, 7, 7, 1);
        DUE.is("one number", x.table(1, 6), 10);
        BlockRanks y = new BlockRanks();
        for (int i = 0; i < 64; i++) {
            if ((i / 8 + i % 8) % 2 == 1) {
                y.set(2, i / 8, i % 8, i);
            }
        }
        DUE.is("every other number", y.table(2, 6), 64);
        DUE.is("its leaves", y.table(2, 3), 1);
        BlockRanks z = powers();
        DUE.is("powers", z.table(0, 6), 1);
    }

    /** Promise 16: "7 for the greatest rank of its leaves". In the first leaf, in the last one, and 0. */
    private static void tableGreatestRank() {
        DUE.promise("promise 16, the greatest rank of its leaves");
        BlockRanks x = new BlockRanks();
        DUE.is("no split, zeros", x.table(0, 7), 0);
        x.split(0, 0);
        DUE.is("zeros", x.table(0, 7), 0);
        Due.fillDiagonal(x, 0);
        DUE.is("both ends", x.table(0, 7), 4);
        for (int i = 1; i < 8; i++) {
            x.set(0, i, i, i > 5 ? 1 : 0);
        }
        DUE.is("the last leaf", x.table(0, 7), 2);
        x.set(0, 7, 7, 0);
        x.set(0, 6, 6, 0);
        DUE.is("the first leaf", x.table(0, 7), 1);
        x.set(0, 3, 4, 1);
        x.set(0, 0, 7, 1);
        DUE.is("the second leaf", x.table(0, 7), 2);
        DUE.is("the rank of the table", x.table(0, 0), 2);
        BlockRanks z = new BlockRanks();
        Due.splitAll(z, 1);
        z.set(1, 7, 7, 1);
        DUE.is("the last of 64", z.table(1, 7), 1);
        BlockRanks y = powers();
        DUE.is("no split", y.table(0, 7), 8);
        y.split(0, 0);
        DUE.is("a split", y.table(0, 7), 4);
    }

    /** Promise 16: "8 for cells that are not 0". From 0 to 64. */
    private static void tableCellsThatAreNotZero() {
        DUE.promise("promise 16, cells that are not 0");
        BlockRanks x = new BlockRanks();
        DUE.is("zeros", x.table(3, 8), 0);
        for (int i = 0; i < 64; i++) {
            x.set(3, 7 - i / 8, i % 8, i % 2 == 0 ? 1 : 100);
            DUE.is("numbers", x.table(3, 8), i + 1);
        }
        x.set(3, 0, 7, 0);
        DUE.is("but one", x.table(3, 8), 63);
        x.setPrime(2);
        DUE.is("100 is 0 modulo 2", x.table(3, 8), 32);
    }

    // ---- promise 17

    /** Promise 17: "table: 0 to 3". */
    private static void leafTables() {
        DUE.promise("promise 17, table");
        BlockRanks x = new BlockRanks();
        for (int table = 0; table < 4; table++) {
            x.set(table, 0, 0, table);
            DUE.is("table " + table, x.leaf(table, 0, 3), table == 0 ? 0 : 1);
        }
        for (int table : Due.outside(4)) {
            for (int what = 0; what < 6; what++) {
                DUE.is("table " + table + ", what " + what, x.leaf(table, 0, what), BlockRanks.UNKNOWN);
            }
        }
    }

    /** Promise 17: "leaf: a leaf". The first, the last and the next one, of 1, 4 and 64 leaves. */
    private static void leafLeaves() {
        DUE.promise("promise 17, leaf");
        for (int kind = 0; kind < 3; kind++) {
            BlockRanks x = new BlockRanks();
            if (kind == 1) {
                x.split(1, 0);
            } else if (kind == 2) {
                Due.splitAll(x, 1);
            }
            int leaves = kind == 0 ? 1 : kind == 1 ? 4 : 64;
            int size = kind == 0 ? 8 : kind == 1 ? 4 : 1;
            DUE.is("the first of " + leaves, x.leaf(1, 0, 2), size);
            DUE.is("the last of " + leaves, x.leaf(1, leaves - 1, 0), 8 - size);
            for (int leaf : Due.outside(leaves)) {
                for (int what = 0; what < 6; what++) {
                    DUE.is("leaf " + leaf + " of " + leaves, x.leaf(1, leaf, what), BlockRanks.UNKNOWN);
                }
            }
        }
    }

    /** Promise 17: "what: 0 for its first row". The first and the last number, and the next ones. */
    private static void leafWhats() {
        DUE.promise("promise 17, what");
        BlockRanks x = new BlockRanks();
        x.split(3, 0);
        x.set(3, 5, 2, 9);
        int[] numbers = {4, 0, 4, 1, 8, 1};
        for (int what = 0; what < 6; what++) {
            DUE.is("what " + what, x.leaf(3, 2, what), numbers[what]);
        }
        for (int what : Due.outside(6)) {
            DUE.is("what " + what, x.leaf(3, 2, what), BlockRanks.BAD_VALUE);
        }
    }

    /** Promise 17: "1 for its first column, 2 for its size". Of the leaves in the corners, of each size. */
    private static void leafPlaces() {
        DUE.promise("promise 17, first row, first column and size");
        for (int size = 4; size >= 1; size /= 2) {
            BlockRanks x = new BlockRanks();
            splitTo(x, size);
            int leaves = x.table(0, 3);
            // The walk to a corner passes as many quarters of each block on its way.
            int passed = leaves / 4 + leaves / 16 + leaves / 64;
            int[] corners = {0, passed, 2 * passed, 3 * passed};
            for (int corner = 0; corner < 4; corner++) {
                DUE.is("first row", x.leaf(0, corners[corner], 0), corner / 2 * (8 - size));
                DUE.is("first column", x.leaf(0, corners[corner], 1), corner % 2 * (8 - size));
                DUE.is("size", x.leaf(0, corners[corner], 2), size);
            }
        }
    }

    private static void splitTo(BlockRanks x, int size) {
        for (int leaf = 0; leaf < 64; leaf++) {
            while (x.leaf(0, leaf, 2) > size) {
                x.split(0, leaf);
            }
        }
    }

    /** Promise 17: "3 for its rank". From 0 to the full one, of the leaf and not of the table. */
    private static void leafRank() {
        DUE.promise("promise 17, its rank");
        BlockRanks x = powers();
        DUE.is("no split", x.leaf(0, 0, 3), 8);
        x.split(0, 0);
        x.split(0, 3);
        x.split(0, 6);
        // Three leaves of the size 4, three of the size 2, and four of the size 1.
        int[] ranks = {4, 4, 4, 2, 2, 2, 1, 1, 1, 1};
        for (int leaf = 0; leaf < 10; leaf++) {
            DUE.is("rank of leaf " + leaf, x.leaf(0, leaf, 3), ranks[leaf]);
        }
        x.set(0, 7, 7, 0);
        DUE.is("the last leaf", x.leaf(0, 9, 3), 0);
        DUE.is("the one before", x.leaf(0, 8, 3), 1);
        DUE.is("the table", x.table(0, 0), 8);
    }

    /** Promise 17: "4 for its cost". In full and as its rank, of the leaf and not of the table. */
    private static void leafCost() {
        DUE.promise("promise 17, its cost");
        BlockRanks x = powers();
        DUE.is("no split", x.leaf(0, 0, 4), 64);
        x.split(0, 0);
        x.split(0, 3);
        x.split(0, 6);
        int[] costs = {16, 16, 16, 4, 4, 4, 1, 1, 1, 1};
        for (int leaf = 0; leaf < 10; leaf++) {
            DUE.is("cost of leaf " + leaf, x.leaf(0, leaf, 4), costs[leaf]);
        }
        x.set(0, 7, 7, 0);
        DUE.is("the last leaf", x.leaf(0, 9, 4), 0);
        BlockRanks y = new BlockRanks();
        y.split(3, 0);
        y.set(3, 0, 7, 1);
        int[] few = {0, 8, 0, 0};
        for (int leaf = 0; leaf < 4; leaf++) {
            DUE.is("cost of leaf " + leaf, y.leaf(3, leaf, 4), few[leaf]);
        }
    }

    /**
     * Promise 17: "5 for whether that is the cost of its rank (1 if 2 * size * rank is less than size * size,
     * otherwise 0)". 0 if both are the same number.
     */
    private static void leafWhetherThatIsTheCostOfItsRank() {
        DUE.promise("promise 17, the cost of its rank");
        int[][] want = {{1, 1, 1, 1, 0, 0, 0, 0, 0}, {1, 1, 0, 0, 0}, {1, 0, 0}, {1, 0}};
        for (int kind = 0; kind < 4; kind++) {
            int size = 8 >> kind;
            BlockRanks x = new BlockRanks();
            for (int i = 0; i < kind; i++) {
                x.split(1, 0);
            }
            for (int rank = 0; rank <= size; rank++) {
                DUE.is("size " + size + ", rank " + rank, x.leaf(1, 0, 5), want[kind][rank]);
                DUE.is("rank", x.leaf(1, 0, 3), rank);
                x.set(1, rank, size == 8 && rank < 8 ? 7 - rank : rank, 1);
            }
        }
    }

    // ---- promise 18

    /** Promise 18: "table: 0 to 3". */
    private static void leafAtTables() {
        DUE.promise("promise 18, table");
        BlockRanks x = new BlockRanks();
        for (int table = 1; table < 4; table++) {
            x.split(table, 0);
        }
        x.split(2, 0);
        x.split(3, 3);
        int[] leaves = {0, 3, 6, 6};
        for (int table = 0; table < 4; table++) {
            DUE.is("table " + table, x.leafAt(table, 7, 7), leaves[table]);
        }
        for (int table : Due.outside(4)) {
            DUE.is("table " + table, x.leafAt(table, 7, 7), BlockRanks.UNKNOWN);
        }
    }

    /** Promise 18: "row: 0 to 7". */
    private static void leafAtRows() {
        DUE.promise("promise 18, row");
        BlockRanks x = new BlockRanks();
        Due.splitAll(x, 0);
        int[] leaves = {0, 2, 8, 10, 32, 34, 40, 42};
        for (int row = 0; row < 8; row++) {
            DUE.is("row " + row, x.leafAt(0, row, 0), leaves[row]);
        }
        for (int row : Due.outside(8)) {
            DUE.is("row " + row, x.leafAt(0, row, 0), BlockRanks.UNKNOWN);
        }
    }

    /** Promise 18: "column: 0 to 7". */
    private static void leafAtColumns() {
        DUE.promise("promise 18, column");
        BlockRanks x = new BlockRanks();
        Due.splitAll(x, 0);
        int[] leaves = {0, 1, 4, 5, 16, 17, 20, 21};
        for (int column = 0; column < 8; column++) {
            DUE.is("column " + column, x.leafAt(0, 0, column), leaves[column]);
        }
        for (int column : Due.outside(8)) {
            DUE.is("column " + column, x.leafAt(0, 0, column), BlockRanks.UNKNOWN);
        }
    }

    /** Promise 18: "Returns the leaf in which the cell is". At the first and the last cell of leaves of each size. */
    private static void leafAtReturnsTheLeaf() {
        DUE.promise("promise 18, the leaf in which the cell is");
        BlockRanks x = new BlockRanks();
        DUE.is("no split, the first cell", x.leafAt(1, 0, 0), 0);
        DUE.is("no split, the last cell", x.leafAt(1, 7, 7), 0);
        x.split(1, 0);
        x.split(1, 0);
        x.split(1, 3);
        // Three leaves of the size 2, four of the size 1 from 2, 2 on, and three of the size 4.
        int[][] places = {{0, 0, 0}, {1, 1, 0}, {0, 2, 1}, {1, 3, 1}, {2, 0, 2}, {3, 1, 2}, {2, 2, 3}, {2, 3, 4}, {3, 2, 5},
            {3, 3, 6}, {0, 4, 7}, {3, 7, 7}, {4, 0, 8}, {7, 3, 8}, {4, 4, 9}, {7, 7, 9}};
        for (int[] place : places) {
            DUE.is("leafAt(1, " + place[0] + ", " + place[1] + ")", x.leafAt(1, place[0], place[1]), place[2]);
        }
    }

    // ---- promise 19

    /** Promise 19: "Compares two tables." Each with each, both ways. */
    private static void differComparesTwoTables() {
        DUE.promise("promise 19, two tables");
        BlockRanks x = new BlockRanks();
        for (int table = 0; table < 4; table++) {
            // The first cell is the same in A and B and in C and D, the last one in A and C and in B and D.
            x.set(table, 0, 0, table / 2 + 1);
            x.set(table, 7, 7, table % 2 + 1);
        }
        for (int table = 0; table < 4; table++) {
            for (int other = 0; other < 4; other++) {
                DUE.is("differ(" + table + ", " + other + ")", x.differ(table, other), Integer.bitCount(table ^ other));
            }
        }
    }

    /** Promise 19: "table: 0 to 3". */
    private static void differTables() {
        DUE.promise("promise 19, table");
        BlockRanks x = new BlockRanks();
        x.set(1, 0, 0, 1);
        x.set(3, 0, 0, 1);
        x.set(3, 7, 7, 1);
        int[] want = {0, 1, 0, 2};
        for (int table = 0; table < 4; table++) {
            DUE.is("table " + table, x.differ(table, 0), want[table]);
        }
        for (int table : Due.outside(4)) {
            DUE.is("table " + table, x.differ(table, 0), BlockRanks.UNKNOWN);
        }
    }

    /** Promise 19: "other: 0 to 3". */
    private static void differOthers() {
        DUE.promise("promise 19, other");
        BlockRanks x = new BlockRanks();
        x.set(1, 0, 0, 1);
        x.set(3, 0, 0, 1);
        x.set(3, 7, 7, 1);
        int[] want = {2, 1, 2, 0};
        for (int other = 0; other < 4; other++) {
            DUE.is("other " + other, x.differ(3, other), want[other]);
        }
        for (int other : Due.outside(4)) {
            DUE.is("other " + other, x.differ(3, other), BlockRanks.UNKNOWN);
            DUE.is("both " + other, x.differ(other, other), BlockRanks.UNKNOWN);
        }
    }

    /** Promise 19: "Returns how many cells differ". From 0 to 64; trees are no cells. */
    private static void differReturnsHowManyCells() {
        DUE.promise("promise 19, how many cells differ");
        BlockRanks x = new BlockRanks();
        Due.splitAll(x, 1);
        DUE.is("none", x.differ(0, 1), 0);
        for (int i = 0; i < 64; i++) {
            x.set(0, i % 8, i / 8, 1 + i);
            DUE.is("differ(0, 1)", x.differ(0, 1), i + 1);
        }
        DUE.is("differ(1, 0)", x.differ(1, 0), 64);
        DUE.is("a table and itself", x.differ(0, 0), 0);
        x.set(1, 0, 0, 2);
        DUE.is("two numbers, neither of them 0", x.differ(0, 1), 64);
        x.set(1, 0, 0, 1);
        DUE.is("the same number", x.differ(0, 1), 63);
    }

    // ---- promise 20

    /** Promise 20: "table: 0 to 3". */
    private static void timesTables() {
        DUE.promise("promise 20, table");
        BlockRanks x = new BlockRanks();
        for (int table = 0; table < 4; table++) {
            x.set(table, 7, 7, table + 1);
        }
        Due.write(x, "0,0,0,0,0,0,0,10");
        for (int table = 0; table < 4; table++) {
            DUE.is("table " + table, x.times(table, 7), 10 * table + 10);
        }
        for (int table : Due.outside(4)) {
            DUE.is("table " + table, x.times(table, 7), BlockRanks.UNKNOWN);
        }
    }

    /** Promise 20: "place: 0 to 7: which number of the result is told". */
    private static void timesPlaces() {
        DUE.promise("promise 20, place");
        BlockRanks x = new BlockRanks();
        for (int row = 0; row < 8; row++) {
            x.set(0, row, 0, row + 1);
        }
        Due.write(x, "3,0,0,0,0,0,0,0");
        for (int place = 0; place < 8; place++) {
            DUE.is("place " + place, x.times(0, place), 3 * place + 3);
        }
        for (int place : Due.outside(8)) {
            DUE.is("place " + place, x.times(0, place), BlockRanks.BAD_VALUE);
        }
    }

    /** Promise 20: "Multiplies a table by the row of 8 numbers of the text (as a column)." Not the row by the table. */
    private static void timesMultipliesByAColumn() {
        DUE.promise("promise 20, as a column");
        for (int column = 0; column < 8; column++) {
            BlockRanks x = new BlockRanks();
            x.set(1, 3, column, 5);
            x.set(1, 0, 7 - column, 2);
            Due.write(x, "1,2,3,4,5,6,7,8");
            DUE.is("the place 3, column " + column, x.times(1, 3), 5 * (column + 1));
            DUE.is("the place 0, column " + column, x.times(1, 0), 2 * (8 - column));
            DUE.is("the place 7", x.times(1, 7), 0);
        }
    }

    /** Promise 20, TABLES: "All sums and products are modulo p". To 0, and with the greatest numbers. */
    private static void timesWrapsAround() {
        DUE.promise("promise 20, modulo p");
        BlockRanks x = new BlockRanks();
        x.setPrime(251);
        for (int column = 0; column < 8; column++) {
            x.set(0, 0, column, 250);
        }
        x.set(0, 1, 0, 1);
        x.set(0, 1, 1, 1);
        Due.write(x, "250,250,250,250,250,250,250,250");
        DUE.is("eight times 250 * 250", x.times(0, 0), 8);
        DUE.is("250 + 250", x.times(0, 1), 249);
        Due.write(x, "250,1,0,0,0,0,0,0");
        DUE.is("250 + 1", x.times(0, 1), 0);
    }

    /** Promise 20: "-100 minus the fault of the text if it has one (which is an error)". */
    private static void timesWithAFault() {
        DUE.promise("promise 20, the fault");
        String[] texts = {"", "1", "1,", "x", "1,2,3,4,5,6,7;8", "1,2,3,4,5,6,7,8;", "1,2,3,4,5,6,7,8,"};
        int[] faults = {0, 1, 2, 0, 13, 15, 15};
        for (int i = 0; i < texts.length; i++) {
            BlockRanks x = new BlockRanks();
            Due.write(x, texts[i]);
            DUE.is("with '" + texts[i] + "'", x.times(3, 7), -100 - faults[i]);
        }
    }

    /** Ones, but another number at the place. */
    private static String onesBut(int place, int number) {
        StringBuilder row = new StringBuilder();
        for (int i = 0; i < 8; i++) {
            row.append(i == 0 ? "" : ",").append(i == place ? number : 1);
        }
        return row.toString();
    }

    /** Promise 20: "BAD_VALUE if a number is not less than p". Each of the eight: p - 1, p, p + 1 and 999. */
    private static void timesWithNumbersNotLessThanThePrime() {
        DUE.promise("promise 20, a number not less than p");
        for (int prime : new int[] {2, 101, 251}) {
            for (int place = 0; place < 8; place++) {
                BlockRanks x = new BlockRanks();
                x.setPrime(prime);
                x.set(0, 7, place, 1);
                Due.write(x, onesBut(place, prime - 1));
                DUE.is("p - 1 at " + place, x.times(0, 7), prime - 1);
                for (int number : new int[] {prime, prime + 1, 999}) {
                    Due.write(x, onesBut(place, number));
                    DUE.is(number + " at " + place, x.times(0, 7), BlockRanks.BAD_VALUE);
                }
            }
        }
    }

    // ---- promise 21

    /** Promise 21: "table: 0 to 3". */
    private static void solveTables() {
        DUE.promise("promise 21, table");
        BlockRanks x = new BlockRanks();
        for (int table = 0; table < 4; table++) {
            Due.fillDiagonal(x, table);
            x.set(table, 7, 7, table + 1);
        }
        Due.write(x, "0,0,0,0,0,0,0,12");
        for (int table = 0; table < 4; table++) {
            DUE.is("table " + table, x.solve(table, 7), 12 / (table + 1));
        }
        for (int table : Due.outside(4)) {
            DUE.is("table " + table, x.solve(table, 7), BlockRanks.UNKNOWN);
        }
    }

    /** Promise 21: "place: 0 to 7: which of these numbers is told". */
    private static void solvePlaces() {
        DUE.promise("promise 21, place");
        BlockRanks x = new BlockRanks();
        for (int i = 0; i < 8; i++) {
            // The row i is that of the place 7 - i.
            x.set(0, i, 7 - i, 1);
        }
        Due.write(x, "1,2,3,4,5,6,7,8");
        for (int place = 0; place < 8; place++) {
            DUE.is("place " + place, x.solve(0, place), 8 - place);
        }
        for (int place : Due.outside(8)) {
            DUE.is("place " + place, x.solve(0, place), BlockRanks.BAD_VALUE);
        }
    }

    /**
     * Promise 21: "Finds the numbers by which a table has to be multiplied (as a column) to give the row of 8 numbers of
     * the text." Multiplied back by times, for the least and the greatest prime too.
     */
    private static void solveGivesTheRow() {
        DUE.promise("promise 21, to give the row");
        for (int prime : new int[] {2, 11, 251}) {
            BlockRanks x = new BlockRanks();
            x.setPrime(prime);
            // Ones below the diagonal and p - 1 at the ends: the determinant is 1 or -1, and rows have to be exchanged.
            for (int i = 0; i < 8; i++) {
                for (int j = 0; j <= i; j++) {
                    x.set(0, (i + 3) % 8, j, i == j ? 1 : prime - 1);
                }
            }
            int[] row = {0, 1, prime - 1, prime / 2, 1, 0, prime - 1, 1};
            int[] solution = new int[8];
            Due.write(x, text(row));
            for (int place = 0; place < 8; place++) {
                solution[place] = x.solve(0, place);
                DUE.holds("a remainder", solution[place] >= 0 && solution[place] < prime);
            }
            Due.write(x, text(solution));
            for (int place = 0; place < 8; place++) {
                DUE.is("multiplied back, place " + place, x.times(0, place), row[place]);
            }
        }
    }

    private static String text(int[] row) {
        StringBuilder text = new StringBuilder();
        for (int i = 0; i < row.length; i++) {
            text.append(i == 0 ? "" : ",").append(row[i]);
        }
        return text.toString();
    }

    /** Promise 21: "-100 minus the fault of the text if it has one (which is an error)". */
    private static void solveWithAFault() {
        DUE.promise("promise 21, the fault");
        String[] texts = {"", "1", "1,", "x", "1,2,3,4,5,6,7;8", "1,2,3,4,5,6,7,8;", "1,2,3,4,5,6,7,8,"};
        int[] faults = {0, 1, 2, 0, 13, 15, 15};
        for (int i = 0; i < texts.length; i++) {
            BlockRanks x = new BlockRanks();
            Due.fillDiagonal(x, 3);
            Due.write(x, texts[i]);
            DUE.is("with '" + texts[i] + "'", x.solve(3, 7), -100 - faults[i]);
        }
    }

    /** Promise 21: "BAD_VALUE if a number is not less than p". Each of the eight: p - 1, p, p + 1 and 999. */
    private static void solveWithNumbersNotLessThanThePrime() {
        DUE.promise("promise 21, a number not less than p");
        for (int prime : new int[] {2, 101, 251}) {
            for (int place = 0; place < 8; place++) {
                BlockRanks x = new BlockRanks();
                x.setPrime(prime);
                Due.fillDiagonal(x, 0);
                Due.write(x, onesBut(place, prime - 1));
                DUE.is("p - 1 at " + place, x.solve(0, place), prime - 1);
                for (int number : new int[] {prime, prime + 1, 999}) {
                    Due.write(x, onesBut(place, number));
                    DUE.is(number + " at " + place, x.solve(0, place), BlockRanks.BAD_VALUE);
                }
            }
        }
    }

    /** Promise 21: "NOT_POSSIBLE if the determinant is 0". Also if there are numbers that give the row, as for zeros. */
    private static void solveWithoutADeterminant() {
        DUE.promise("promise 21, the determinant is 0");
        BlockRanks x = new BlockRanks();
        Due.write(x, "0,0,0,0,0,0,0,0");
        DUE.is("zeros and zeros", x.solve(0, 0), BlockRanks.NOT_POSSIBLE);
        for (int zero = 0; zero < 8; zero++) {
            BlockRanks y = new BlockRanks();
            Due.fillDiagonal(y, 0);
            y.set(0, zero, zero, 0);
            for (String row : new String[] {"0,0,0,0,0,0,0,0", "1,1,1,1,1,1,1,1"}) {
                Due.write(y, row);
                for (int place = 0; place < 8; place++) {
                    DUE.is("the rank 7, a zero at " + zero, y.solve(0, place), BlockRanks.NOT_POSSIBLE);
                }
            }
        }
    }

    /** Promise 21: "NOT_POSSIBLE if the determinant is 0". Modulo p: the next determinants, p - 1 and 1, are possible. */
    private static void solveWithADeterminantModuloThePrime() {
        DUE.promise("promise 21, the determinant modulo p");
        BlockRanks x = new BlockRanks();
        Due.fillDiagonal(x, 0);
        Due.fill(x, 0, new int[][] {{10, 1}, {1, 10}});
        Due.write(x, "1,0,0,0,0,0,0,0");
        x.set(0, 1, 0, 100);
        DUE.is("100 - 100", x.solve(0, 0), BlockRanks.NOT_POSSIBLE);
        x.set(0, 1, 0, 99);
        DUE.is("100 - 99", x.solve(0, 0), 10);
        x.set(0, 1, 0, 0);
        DUE.is("100, which is -1", x.solve(0, 0), 91);
        x.setPrime(3);
        x.set(0, 1, 0, 1);
        DUE.is("1 - 1 modulo 3", x.solve(0, 0), BlockRanks.NOT_POSSIBLE);
    }

    // ---- promise 22

    /** Promise 22: "what: 0 for the prime". The first and the last number, and the next ones. */
    private static void countWhats() {
        DUE.promise("promise 22, what");
        BlockRanks x = new BlockRanks();
        x.setPrime(19);
        x.split(2, 0);
        x.set(2, 0, 0, 1);
        x.type('A');
        x.type('=');
        int[] numbers = {19, 8, 7, 3, 2};
        for (int what = 0; what < 5; what++) {
            DUE.is("count(" + what + ")", x.count(what), numbers[what]);
        }
        for (int what : Due.outside(5)) {
            DUE.is("count(" + what + ")", x.count(what), BlockRanks.BAD_VALUE);
        }
    }

    /** Promise 22: "0 for the prime". */
    private static void countThePrime() {
        DUE.promise("promise 22, the prime");
        BlockRanks x = new BlockRanks();
        DUE.is("at first", x.count(0), 101);
        x.setPrime(2);
        DUE.is("the least", x.count(0), 2);
        x.setPrime(251);
        DUE.is("the greatest", x.count(0), 251);
        x.setPrime(252);
        DUE.is("a refused one", x.count(0), 251);
        x.undo();
        DUE.is("undone", x.count(0), 2);
    }

    /** Promise 22: "1 for the cost of all tables". From 0 to 256, the first and the last table too. */
    private static void countTheCostOfAllTables() {
        DUE.promise("promise 22, the cost of all tables");
        BlockRanks x = new BlockRanks();
        DUE.is("zeros", x.count(1), 0);
        for (int table = 0; table < 4; table++) {
            Due.fillDiagonal(x, table);
            DUE.is("in full, up to " + table, x.count(1), 64 * (table + 1));
        }
        x.recompress(3);
        DUE.is("the last one's least tree", x.count(1), 200);
        x.recompress(0);
        DUE.is("the first one's least tree", x.count(1), 144);
    }

    /** Promise 22: "2 for all leaves". From 4 to 256. */
    private static void countAllLeaves() {
        DUE.promise("promise 22, all leaves");
        BlockRanks x = new BlockRanks();
        DUE.is("no split", x.count(2), 4);
        for (int table = 0; table < 4; table++) {
            Due.splitAll(x, table);
            DUE.is("all splits, up to " + table, x.count(2), 4 + 63 * (table + 1));
        }
    }

    /** Promise 22: "3 for the states in the history". From 0 to 4. */
    private static void countTheStates() {
        DUE.promise("promise 22, the states in the history");
        BlockRanks x = new BlockRanks();
        DUE.is("at first", x.count(3), 0);
        for (int i = 1; i <= 6; i++) {
            x.set(0, 0, 0, i);
            DUE.is("acts", x.count(3), Math.min(i, 4));
        }
        for (int i = 3; i >= -1; i--) {
            x.undo();
            DUE.is("undone", x.count(3), Math.max(0, i));
        }
    }

    /** Promise 22: "4 for the length of the text". From 0 to 60. */
    private static void countTheText() {
        DUE.promise("promise 22, the length of the text");
        BlockRanks x = new BlockRanks();
        DUE.is("at first", x.count(4), 0);
        for (int i = 1; i <= 65; i++) {
            x.type('1');
            DUE.is("typed", x.count(4), Math.min(i, 60));
        }
        x.clearText();
        DUE.is("cleared", x.count(4), 0);
    }
}
