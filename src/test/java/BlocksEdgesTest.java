/**
 * Promises 7 to 9, and the sentences under BLOCKS: a test for each sentence, at its edges.
 * The first remark of a test names the promise and the sentence; SentencesTest compares it with the document.
 */
public final class BlocksEdgesTest {
    private static final Due DUE = new Due("BlocksEdgesTest");

    public static void main(String[] args) {
        quartersInTheirOrder();
        noTableIsSplitAtFirst();
        leavesAreNumberedByAWalk();
        aBlockThatIsNotSplitIsALeaf();
        splitALeafAlone();
        splitTables();
        splitLeaves();
        splitReturnsHowManyLeaves();
        splitOfTheSizeOne();
        joinFourQuartersAlone();
        joinTables();
        joinLeaves();
        joinReturnsTheNumberOfTheLeaf();
        joinWithoutASplit();
        joinWithOneThatIsNoLeaf();
        ranksAreModuloThePrime();
        costOfEachRank();
        costIsThatOfAllLeaves();
        leastTreeWithEqualCosts();
        leastTreeWithOneCellLess();
        leastTreeOfLeastTrees();
        leastTreeOfZeros();
        blocksOfTheSizeOneAreNotSplit();
        recompressGivesTheLeastTree();
        recompressTables();
        recompressReturnsTheCost();
        recompressIsSoAlready();
        DUE.finish();
    }

    private static void leafIs(BlockRanks x, int table, int leaf, int row, int column, int size) {
        DUE.is("first row of leaf " + leaf, x.leaf(table, leaf, 0), row);
        DUE.is("first column of leaf " + leaf, x.leaf(table, leaf, 1), column);
        DUE.is("size of leaf " + leaf, x.leaf(table, leaf, 2), size);
    }

    // ---- trees

    /**
     * Promise 7, BLOCKS: "Each table is a block of the size 8, which may be split into four blocks of half the size (the
     * upper left, the upper right, the lower left and the lower right one, in this order), each of which may be split
     * again, and so on down to the size 1." From the size 8 down to 1, in each of the four corners.
     */
    private static void quartersInTheirOrder() {
        DUE.promise("promise 7, four blocks of half the size");
        for (int corner = 0; corner < 4; corner++) {
            BlockRanks x = new BlockRanks();
            leafIs(x, 2, 0, 0, 0, 8);
            int leaf = 0;
            int row = 0;
            int column = 0;
            for (int half = 4; half >= 1; half /= 2) {
                DUE.holds("split", x.split(2, leaf) > 0);
                for (int quarter = 0; quarter < 4; quarter++) {
                    leafIs(x, 2, leaf + quarter, row + quarter / 2 * half, column + quarter % 2 * half, half);
                }
                leaf += corner;
                row += corner / 2 * half;
                column += corner % 2 * half;
            }
            DUE.is("the size 1", x.split(2, leaf), BlockRanks.NOT_POSSIBLE);
            DUE.is("leaves", x.table(2, 3), 10);
        }
    }

    /** Promise 1, BLOCKS: "At first no table is split." */
    private static void noTableIsSplitAtFirst() {
        DUE.promise("promise 1, no table is split");
        BlockRanks x = new BlockRanks();
        for (int table = 0; table < 4; table++) {
            DUE.is("leaves of table " + table, x.table(table, 3), 1);
            DUE.is("join", x.join(table, 0), BlockRanks.NOT_POSSIBLE);
            DUE.is("the last cell's leaf", x.leafAt(table, 7, 7), 0);
        }
        DUE.is("all leaves", x.count(2), 4);
    }

    /**
     * Promise 17, BLOCKS: "The leaves of a table are numbered from 0 in the order of a walk that goes through the four
     * blocks of a split block in their order." All 64 leaves of the size 1.
     */
    private static void leavesAreNumberedByAWalk() {
        DUE.promise("promise 17, in the order of a walk");
        BlockRanks x = new BlockRanks();
        Due.splitAll(x, 1);
        int leaf = 0;
        for (int large = 0; large < 4; large++) {
            for (int middle = 0; middle < 4; middle++) {
                for (int small = 0; small < 4; small++) {
                    int row = large / 2 * 4 + middle / 2 * 2 + small / 2;
                    int column = large % 2 * 4 + middle % 2 * 2 + small % 2;
                    leafIs(x, 1, leaf, row, column, 1);
                    DUE.is("leafAt", x.leafAt(1, row, column), leaf);
                    leaf++;
                }
            }
        }
        DUE.is("behind the last one", x.leaf(1, 64, 2), BlockRanks.UNKNOWN);
    }

    /** Promise 8, BLOCKS: "A block that is not split is a leaf." Also one that is joined again. */
    private static void aBlockThatIsNotSplitIsALeaf() {
        DUE.promise("promise 8, a block that is not split");
        BlockRanks x = new BlockRanks();
        x.split(3, 0);
        x.split(3, 3);
        leafIs(x, 3, 2, 4, 0, 4);
        leafIs(x, 3, 3, 4, 4, 2);
        x.join(3, 4);
        leafIs(x, 3, 3, 4, 4, 4);
        DUE.is("no fifth leaf", x.leaf(3, 4, 2), BlockRanks.UNKNOWN);
        x.join(3, 3);
        leafIs(x, 3, 0, 0, 0, 8);
        DUE.is("no second leaf", x.leaf(3, 1, 2), BlockRanks.UNKNOWN);
    }

    // ---- promise 7

    /** Promise 7: "Splits a leaf." No other one, and no cell becomes another one. */
    private static void splitALeafAlone() {
        DUE.promise("promise 7, a leaf alone");
        for (int split = 0; split < 4; split++) {
            BlockRanks x = numbered();
            x.split(1, 0);
            x.split(1, split);
            for (int leaf = 0; leaf < 7; leaf++) {
                int quarter = leaf < split ? leaf : leaf < split + 4 ? split : leaf - 3;
                int inside = quarter == split ? leaf - split : 0;
                int size = quarter == split ? 2 : 4;
                leafIs(x, 1, leaf, quarter / 2 * 4 + inside / 2 * 2, quarter % 2 * 4 + inside % 2 * 2, size);
            }
            numberedCellsStay(x);
            DUE.is("another table", x.table(0, 3), 1);
        }
    }

    /** Cells of the table 1 that are all different ones: 64 calls. */
    private static BlockRanks numbered() {
        BlockRanks x = new BlockRanks();
        for (int i = 0; i < 64; i++) {
            x.set(1, i / 8, i % 8, i + 1);
        }
        return x;
    }

    private static void numberedCellsStay(BlockRanks x) {
        for (int i = 0; i < 64; i++) {
            DUE.is("cell " + i, x.cell(1, i / 8, i % 8), i + 1);
        }
    }

    /** Promise 7: "table: 0 to 3". */
    private static void splitTables() {
        DUE.promise("promise 7, table");
        BlockRanks x = new BlockRanks();
        for (int table = 0; table < 4; table++) {
            DUE.is("table " + table, x.split(table, 0), 4);
            DUE.is("all leaves", x.count(2), 4 + 3 * (table + 1));
        }
        for (int table : Due.outside(4)) {
            DUE.is("table " + table, x.split(table, 0), BlockRanks.UNKNOWN);
        }
        DUE.is("all leaves", x.count(2), 16);
    }

    /** Promise 7: "leaf: a leaf". The first, the last and the next one, of 1, 4 and 64 leaves. */
    private static void splitLeaves() {
        DUE.promise("promise 7, leaf");
        BlockRanks x = new BlockRanks();
        splitNoLeaves(x, 1);
        DUE.is("the only leaf", x.split(1, 0), 4);
        splitNoLeaves(x, 4);
        DUE.is("the last leaf", x.split(1, 3), 7);
        splitNoLeaves(x, 7);
        DUE.is("the first leaf", x.split(1, 0), 10);
        leafIs(x, 1, 0, 0, 0, 2);
        leafIs(x, 1, 9, 6, 6, 2);
        BlockRanks y = new BlockRanks();
        Due.splitAll(y, 1);
        splitNoLeaves(y, 64);
        DUE.is("the last of 64", y.split(1, 63), BlockRanks.NOT_POSSIBLE);
    }

    private static void splitNoLeaves(BlockRanks x, int leaves) {
        for (int leaf : Due.outside(leaves)) {
            DUE.is("leaf " + leaf + " of " + leaves, x.split(1, leaf), BlockRanks.UNKNOWN);
        }
        DUE.is("leaves", x.table(1, 3), leaves);
    }

    /** Promise 7: "Returns how many leaves there are then". From 4 to 64, of this table alone. */
    private static void splitReturnsHowManyLeaves() {
        DUE.promise("promise 7, how many leaves there are then");
        BlockRanks x = new BlockRanks();
        x.split(1, 0);
        DUE.is("the first split", x.split(0, 0), 4);
        int leaves = 4;
        // From the last quarter to the first one: no number of a leaf before it changes.
        for (int quarter = 3; quarter >= 0; quarter--) {
            for (int further : new int[] {0, 3, 2, 1, 0}) {
                leaves += 3;
                DUE.is("split(0, " + (quarter + further) + ")", x.split(0, quarter + further), leaves);
            }
        }
        DUE.is("in the end", leaves, 64);
        DUE.is("table(0, 3)", x.table(0, 3), 64);
    }

    /** Promise 7: "NOT_POSSIBLE if its size is 1". The size 2 is possible. */
    private static void splitOfTheSizeOne() {
        DUE.promise("promise 7, its size is 1");
        BlockRanks x = new BlockRanks();
        DUE.is("the size 8", x.split(0, 0), 4);
        DUE.is("the size 4", x.split(0, 1), 7);
        DUE.is("the size 2", x.split(0, 1), 10);
        for (int leaf = 1; leaf < 5; leaf++) {
            DUE.is("the size 1, leaf " + leaf, x.split(0, leaf), BlockRanks.NOT_POSSIBLE);
        }
        DUE.is("the size 2 behind it", x.split(0, 5), 13);
        DUE.is("the size 4 before it", x.split(0, 0), 16);
    }

    // ---- promise 8

    /**
     * Promise 8: "Joins a leaf and the other three quarters of the block that was split." No other leaves, and no cell
     * becomes another one.
     */
    private static void joinFourQuartersAlone() {
        DUE.promise("promise 8, four quarters alone");
        for (int leaf = 3; leaf < 7; leaf++) {
            BlockRanks x = numbered();
            x.split(1, 0);
            x.split(1, 0);
            x.split(1, 4);
            x.split(1, 3);
            // Three leaves of the size 2, four of the size 1, four of the size 2, and two of the size 4.
            DUE.is("join(1, " + leaf + ")", x.join(1, leaf), 3);
            for (int i = 0; i < 8; i++) {
                leafIs(x, 1, i, i / 2 % 2 * 2, i / 4 * 4 + i % 2 * 2, 2);
            }
            leafIs(x, 1, 8, 4, 0, 4);
            leafIs(x, 1, 9, 4, 4, 4);
            DUE.is("leaves", x.table(1, 3), 10);
            numberedCellsStay(x);
        }
    }

    /** Promise 8: "table: 0 to 3". */
    private static void joinTables() {
        DUE.promise("promise 8, table");
        BlockRanks x = new BlockRanks();
        for (int table = 0; table < 4; table++) {
            x.split(table, 0);
        }
        for (int table : Due.outside(4)) {
            DUE.is("table " + table, x.join(table, 0), BlockRanks.UNKNOWN);
        }
        for (int table = 0; table < 4; table++) {
            DUE.is("table " + table, x.join(table, 0), 0);
            DUE.is("all leaves", x.count(2), 16 - 3 * (table + 1));
        }
    }

    /** Promise 8: "leaf: a leaf". The first, the last and the next one, of 1, 4 and 64 leaves. */
    private static void joinLeaves() {
        DUE.promise("promise 8, leaf");
        for (int kind = 0; kind < 3; kind++) {
            BlockRanks x = new BlockRanks();
            if (kind == 1) {
                x.split(3, 0);
            } else if (kind == 2) {
                Due.splitAll(x, 3);
            }
            int leaves = x.table(3, 3);
            for (int leaf : Due.outside(leaves)) {
                DUE.is("leaf " + leaf + " of " + leaves, x.join(3, leaf), BlockRanks.UNKNOWN);
            }
            DUE.is("leaves", x.table(3, 3), leaves);
            if (kind > 0) {
                DUE.is("the last leaf", x.join(3, leaves - 1), leaves - 4);
                x.undo();
                DUE.is("the first leaf", x.join(3, 0), 0);
                DUE.is("leaves", x.table(3, 3), leaves - 3);
            }
        }
    }

    /** Promise 8: "Returns the number of the leaf that they are then". Each of 64 leaves. */
    private static void joinReturnsTheNumberOfTheLeaf() {
        DUE.promise("promise 8, the number of the leaf that they are then");
        BlockRanks x = new BlockRanks();
        Due.splitAll(x, 0);
        for (int leaf = 0; leaf < 64; leaf++) {
            int first = leaf / 4 * 4;
            DUE.is("join(0, " + leaf + ")", x.join(0, leaf), first);
            leafIs(x, 0, first, first / 32 * 4 + first / 8 % 2 * 2, first / 16 % 2 * 4 + first / 4 % 2 * 2, 2);
            x.undo();
        }
        for (int i = 0; i < 16; i++) {
            DUE.is("from the first on", x.join(0, i), i);
        }
        for (int i = 3; i >= 0; i--) {
            DUE.is("from the last on", x.join(0, 4 * i + 3), 4 * i);
        }
        DUE.is("all", x.join(0, 2), 0);
        DUE.is("leaves", x.table(0, 3), 1);
    }

    /** Promise 8: "NOT_POSSIBLE if the table is not split". Also if it was. */
    private static void joinWithoutASplit() {
        DUE.promise("promise 8, the table is not split");
        BlockRanks x = new BlockRanks();
        for (int table = 0; table < 4; table++) {
            DUE.is("table " + table, x.join(table, 0), BlockRanks.NOT_POSSIBLE);
        }
        x.split(2, 0);
        DUE.is("another one is split", x.join(1, 0), BlockRanks.NOT_POSSIBLE);
        x.join(2, 0);
        DUE.is("it was split", x.join(2, 0), BlockRanks.NOT_POSSIBLE);
    }

    /** Promise 8: "or one of the other three is no leaf". Each of the four, for leaves of each size. */
    private static void joinWithOneThatIsNoLeaf() {
        DUE.promise("promise 8, one of the other three is no leaf");
        for (int size = 4; size >= 2; size /= 2) {
            for (int split = 0; split < 4; split++) {
                BlockRanks x = new BlockRanks();
                x.split(0, 0);
                int first = 0;
                if (size == 2) {
                    x.split(0, 3);
                    first = 3;
                }
                x.split(0, first + split);
                for (int other = 0; other < 4; other++) {
                    int leaf = first + other + (other > split ? 3 : 0);
                    if (other != split) {
                        DUE.is("leaf " + leaf + " beside a split", x.join(0, leaf), BlockRanks.NOT_POSSIBLE);
                    }
                }
                DUE.is("the split one's quarters", x.join(0, first + split + 3), first + split);
                DUE.is("then all four", x.join(0, first + split), first);
            }
        }
        BlockRanks x = new BlockRanks();
        Due.splitAll(x, 0);
        x.join(0, 4);
        DUE.is("a leaf of the size 2 beside the size 1", x.join(0, 4), BlockRanks.NOT_POSSIBLE);
        DUE.is("leaves of the size 1 beside it", x.join(0, 0), 0);
    }

    // ---- ranks and costs

    /** Promise 17, BLOCKS: "The rank of a block is the rank of its cells modulo p." */
    private static void ranksAreModuloThePrime() {
        DUE.promise("promise 17, the rank modulo p");
        int[][] cases = {{101, 1, 2, 3, 4, 2}, {5, 1, 2, 3, 1, 1}, {7, 1, 2, 3, 1, 2}, {2, 1, 1, 1, 1, 1}, {2, 1, 1, 0, 1, 2},
            {101, 100, 1, 1, 100, 1}, {101, 10, 1, 1, 91, 1}, {251, 250, 250, 250, 250, 1}, {251, 1, 250, 125, 126, 1}};
        for (int[] numbers : cases) {
            BlockRanks x = new BlockRanks();
            x.setPrime(numbers[0]);
            Due.fill(x, 1, new int[][] {{}, {}, {0, 0, 0, 0, numbers[1], numbers[2]}, {0, 0, 0, 0, numbers[3], numbers[4]}});
            DUE.is("the table's", x.table(1, 0), numbers[5]);
            DUE.is("the only leaf's", x.leaf(1, 0, 3), numbers[5]);
            x.split(1, 0);
            x.split(1, 1);
            DUE.is("the block's", x.leaf(1, 3, 3), numbers[5]);
            DUE.is("another block's", x.leaf(1, 2, 3), 0);
        }
        BlockRanks x = new BlockRanks();
        Due.fill(x, 0, new int[][] {{1, 2}, {3, 4}});
        DUE.is("modulo 101", x.table(0, 0), 2);
        x.setPrime(2);
        DUE.is("modulo 2", x.table(0, 0), 1);
    }

    /**
     * Promise 17, BLOCKS: "A leaf of the size s and the rank r costs s * s or 2 * s * r cells, whichever is less."
     * Each size with each rank, also where both are the same number.
     */
    private static void costOfEachRank() {
        DUE.promise("promise 17, s * s or 2 * s * r");
        int[][] costs = {{0, 16, 32, 48, 64, 64, 64, 64, 64}, {0, 8, 16, 16, 16}, {0, 4, 4}, {0, 1}};
        for (int kind = 0; kind < 4; kind++) {
            int size = 8 >> kind;
            BlockRanks x = new BlockRanks();
            for (int i = 0; i < kind; i++) {
                x.split(2, 0);
            }
            for (int rank = 0; rank <= size; rank++) {
                String what = "size " + size + ", rank " + rank;
                DUE.is(what + ": rank", x.leaf(2, 0, 3), rank);
                DUE.is(what + ": cost", x.leaf(2, 0, 4), costs[kind][rank]);
                DUE.is(what + ": cost of the table", x.table(2, 4), costs[kind][rank]);
                DUE.is(what + ": cost of all", x.count(1), costs[kind][rank]);
                x.set(2, rank, rank, 1);
            }
        }
    }

    /** Promise 16, BLOCKS: "The cost of a table is that of all its leaves together." The first and the last one too. */
    private static void costIsThatOfAllLeaves() {
        DUE.promise("promise 16, all its leaves together");
        BlockRanks x = new BlockRanks();
        Due.splitAll(x, 1);
        int cells = 0;
        for (int leaf : new int[] {0, 63, 1, 62, 31, 32}) {
            x.set(1, x.leaf(1, leaf, 0), x.leaf(1, leaf, 1), 1);
            cells++;
            DUE.is("leaves of the size 1", x.table(1, 4), cells);
        }
        BlockRanks y = new BlockRanks();
        y.split(1, 0);
        y.split(1, 3);
        y.set(1, 0, 0, 1);
        DUE.is("the first leaf", y.table(1, 4), 8);
        y.set(1, 7, 7, 1);
        DUE.is("the last leaf", y.table(1, 4), 12);
        y.set(1, 0, 7, 1);
        y.set(1, 7, 0, 1);
        DUE.is("four leaves", y.table(1, 4), 28);
        DUE.is("another table", y.table(0, 4), 0);
    }

    // ---- promise 9

    /** A table without zeros: the n-th row holds the powers of n, so that each of its blocks has the full rank. */
    private static BlockRanks powers(int size) {
        BlockRanks x = new BlockRanks();
        for (int row = 0; row < size; row++) {
            int power = 1;
            for (int column = 0; column < size; column++) {
                x.set(0, row, column, power);
                power = power * (row + 1) % 101;
            }
        }
        return x;
    }

    private static void leastTreeIs(String what, BlockRanks x, int cost, int leaves) {
        DUE.is(what + ": cost of the least tree", x.table(0, 5), cost);
        DUE.is(what + ": leaves of the least tree", x.table(0, 6), leaves);
        int answer = leaves == x.table(0, 3) ? BlockRanks.NONE : cost;
        DUE.is(what + ": recompress(0)", x.recompress(0), answer);
        DUE.is(what + ": leaves then", x.table(0, 3), leaves);
        DUE.is(what + ": cost then", x.table(0, 4), cost);
    }

    /**
     * Promise 9, BLOCKS: "The least tree of a block is no split, if its cost as a leaf is not greater than the costs of
     * the least trees of its four quarters together". With equal costs, for the sizes 8, 4 and 2.
     */
    private static void leastTreeWithEqualCosts() {
        DUE.promise("promise 9, no split if the costs are equal");
        leastTreeIs("64 and 4 * 16", powers(8), 64, 1);
        BlockRanks four = powers(4);
        leastTreeIs("16 and 4 * 4", four, 16, 4);
        leafIs(four, 0, 0, 0, 0, 4);
        BlockRanks two = powers(2);
        leastTreeIs("4 and 4 * 1", two, 4, 7);
        leafIs(two, 0, 0, 0, 0, 2);
        // The upper half of the table is of one row: as a leaf it costs 16, and its two quarters 8 each.
        BlockRanks half = new BlockRanks();
        Due.write(half, "1,1,1,1,0,0,0,0;1,2,3,4,5,6,7,8");
        half.addProduct(0, 0);
        leastTreeIs("16 and 2 * 8", half, 16, 1);
        // In the upper left quarter alone, 8 as a leaf of the size 4 and 2 * 4.
        BlockRanks quarter = new BlockRanks();
        Due.write(quarter, "1,2,0,0,0,0,0,0;1,2,3,4,0,0,0,0");
        quarter.addProduct(0, 0);
        leastTreeIs("8 and 2 * 4", quarter, 8, 4);
        leafIs(quarter, 0, 0, 0, 0, 4);
    }

    /**
     * Promise 9, BLOCKS: "otherwise the split with these least trees." With quarters that cost one cell less, for the
     * sizes 8, 4 and 2.
     */
    private static void leastTreeWithOneCellLess() {
        DUE.promise("promise 9, a split if it costs less");
        BlockRanks eight = powers(8);
        eight.set(0, 7, 7, 0);
        leastTreeIs("64 and 63", eight, 63, 10);
        leafIs(eight, 0, 0, 0, 0, 4);
        leafIs(eight, 0, 3, 4, 4, 2);
        leafIs(eight, 0, 9, 7, 7, 1);
        BlockRanks four = powers(4);
        four.set(0, 0, 3, 0);
        leastTreeIs("16 and 15", four, 15, 10);
        leafIs(four, 0, 0, 0, 0, 2);
        leafIs(four, 0, 2, 0, 3, 1);
        BlockRanks two = powers(2);
        two.set(0, 1, 0, 0);
        leastTreeIs("4 and 3", two, 3, 10);
        leafIs(two, 0, 2, 1, 0, 1);
    }

    /**
     * Promise 9, BLOCKS: "the costs of the least trees of its four quarters together". Not their costs as leaves, and not
     * those of the tree that the table has.
     */
    private static void leastTreeOfLeastTrees() {
        DUE.promise("promise 9, the least trees of its quarters");
        // A cell in each quarter: 4 * 8 as leaves, which is not less than 64 of the rank 4, but 4 as their least trees.
        BlockRanks x = new BlockRanks();
        for (int i = 0; i < 4; i++) {
            x.set(0, i / 2 * 4 + i, i % 2 * 4 + i, 5);
        }
        leastTreeIs("four cells", x, 4, 28);
        // A row of eight cells costs 16 as a leaf of the size 8, and as much as two leaves of the size 4.
        BlockRanks y = new BlockRanks();
        Due.fill(y, 0, new int[][] {{}, {}, {}, {1, 2, 3, 4, 5, 6, 7, 8}});
        leastTreeIs("a row", y, 8, 22);
        y.join(0, 2);
        DUE.is("another tree has the same least one", y.table(0, 5), 8);
        DUE.is("and gets it", y.recompress(0), 8);
    }

    /** Promise 9, BLOCKS: "if its cost as a leaf is not greater". Zeros cost 0 in any tree. */
    private static void leastTreeOfZeros() {
        DUE.promise("promise 9, zeros");
        BlockRanks x = new BlockRanks();
        leastTreeIs("no split", x, 0, 1);
        Due.splitAll(x, 0);
        DUE.is("cost of 64 leaves", x.table(0, 4), 0);
        leastTreeIs("64 leaves", x, 0, 1);
        BlockRanks y = new BlockRanks();
        y.split(0, 0);
        y.set(0, 7, 7, 1);
        leastTreeIs("three quarters of zeros", y, 1, 10);
        leafIs(y, 0, 2, 4, 0, 4);
    }

    /** Promise 9, BLOCKS: "(A block of the size 1 is not split.)" The least tree has 64 leaves at most. */
    private static void blocksOfTheSizeOneAreNotSplit() {
        DUE.promise("promise 9, a block of the size 1");
        BlockRanks x = new BlockRanks();
        for (int i = 0; i < 64; i += 2) {
            x.set(0, i / 8, (i + i / 8 % 2) % 8, i % 100 + 1);
        }
        // Every block of the size 2 has two cells that are not 0, one below the other or beside it: 2 is less than 4.
        leastTreeIs("every other cell", x, 32, 64);
        leafIs(x, 0, 63, 7, 7, 1);
        for (int leaf = 0; leaf < 64; leaf++) {
            DUE.is("size of leaf " + leaf, x.leaf(0, leaf, 2), 1);
        }
    }

    /** Promise 9: "Gives a table its least tree." Whichever tree it has, and no cell becomes another one. */
    private static void recompressGivesTheLeastTree() {
        DUE.promise("promise 9, its least tree");
        for (int kind = 0; kind < 3; kind++) {
            BlockRanks x = new BlockRanks();
            x.set(3, 2, 5, 7);
            if (kind == 1) {
                x.split(3, 0);
                x.split(3, 2);
            } else if (kind == 2) {
                Due.splitAll(x, 3);
            }
            DUE.is("recompress(3)", x.recompress(3), 1);
            int[][] leaves = {{0, 0, 4}, {0, 4, 2}, {0, 6, 2}, {2, 4, 1}, {2, 5, 1}, {3, 4, 1}, {3, 5, 1}, {2, 6, 2}, {4, 0, 4},
                {4, 4, 4}};
            DUE.is("leaves", x.table(3, 3), leaves.length);
            for (int leaf = 0; leaf < leaves.length; leaf++) {
                leafIs(x, 3, leaf, leaves[leaf][0], leaves[leaf][1], leaves[leaf][2]);
            }
            DUE.cells("recompress(3)", x, 3, new int[][] {{}, {}, {0, 0, 0, 0, 0, 7}});
        }
    }

    /** Promise 9: "table: 0 to 3". */
    private static void recompressTables() {
        DUE.promise("promise 9, table");
        BlockRanks x = new BlockRanks();
        for (int table = 0; table < 4; table++) {
            x.set(table, 0, 0, 1);
        }
        for (int table : Due.outside(4)) {
            DUE.is("table " + table, x.recompress(table), BlockRanks.UNKNOWN);
        }
        for (int table = 0; table < 4; table++) {
            DUE.is("table " + table, x.recompress(table), 1);
            DUE.is("all leaves", x.count(2), 4 + 9 * (table + 1));
        }
    }

    /** Promise 9: "Returns its cost then". 0 and 64 too. */
    private static void recompressReturnsTheCost() {
        DUE.promise("promise 9, its cost then");
        BlockRanks x = new BlockRanks();
        x.split(0, 0);
        DUE.is("zeros", x.recompress(0), 0);
        BlockRanks y = powers(8);
        y.split(0, 0);
        DUE.is("powers", y.recompress(0), 64);
        y.set(0, 0, 0, 0);
        DUE.is("powers but one", y.recompress(0), 63);
        DUE.is("cost then", y.table(0, 4), 63);
    }

    /** Promise 9: "NONE if it has this tree already". Not with another one of as many leaves or of the same cost. */
    private static void recompressIsSoAlready() {
        DUE.promise("promise 9, it has this tree already");
        BlockRanks x = new BlockRanks();
        DUE.is("zeros", x.recompress(0), BlockRanks.NONE);
        x.set(0, 0, 0, 1);
        DUE.is("one cell", x.recompress(0), 1);
        DUE.is("again", x.recompress(0), BlockRanks.NONE);
        x.set(0, 0, 0, 0);
        x.set(0, 7, 7, 1);
        DUE.is("the same number of leaves", x.recompress(0), 1);
        DUE.is("again", x.recompress(0), BlockRanks.NONE);
        // Zeros cost 0 in each tree.
        BlockRanks y = new BlockRanks();
        y.split(3, 0);
        DUE.is("the same cost", y.recompress(3), 0);
        DUE.is("again", y.recompress(3), BlockRanks.NONE);
    }
}
