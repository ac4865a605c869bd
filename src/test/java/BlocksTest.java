/** Promises 7 to 9: what changes trees. */
public final class BlocksTest {
    private static final int LOWEST = Integer.MIN_VALUE;
    private static final int HIGHEST = Integer.MAX_VALUE;

    private static final Due DUE = new Due("BlocksTest");

    public static void main(String[] args) {
        split();
        splitAll();
        splitWrongLeaves();
        join();
        joinIsNotPossible();
        recompress();
        recompressWithEqualCosts();
        recompressInside();
        DUE.finish();
    }

    private static void leafIs(BlockRanks x, int table, int leaf, int row, int column, int size) {
        DUE.is("row of leaf " + leaf, x.leaf(table, leaf, 0), row);
        DUE.is("column of leaf " + leaf, x.leaf(table, leaf, 1), column);
        DUE.is("size of leaf " + leaf, x.leaf(table, leaf, 2), size);
    }

    private static void split() {
        DUE.promise("promise 7");
        BlockRanks x = new BlockRanks();
        DUE.is("split(1, 0)", x.split(1, 0), 4);
        leafIs(x, 1, 0, 0, 0, 4);
        leafIs(x, 1, 1, 0, 4, 4);
        leafIs(x, 1, 2, 4, 0, 4);
        leafIs(x, 1, 3, 4, 4, 4);
        DUE.is("another table", x.table(0, 3), 1);
        DUE.is("split(1, 2)", x.split(1, 2), 7);
        leafIs(x, 1, 2, 4, 0, 2);
        leafIs(x, 1, 3, 4, 2, 2);
        leafIs(x, 1, 4, 6, 0, 2);
        leafIs(x, 1, 5, 6, 2, 2);
        leafIs(x, 1, 6, 4, 4, 4);
        DUE.is("split(1, 5)", x.split(1, 5), 10);
        leafIs(x, 1, 5, 6, 2, 1);
        leafIs(x, 1, 8, 7, 3, 1);
        leafIs(x, 1, 9, 4, 4, 4);
        DUE.is("a leaf of the size 1", x.split(1, 5), BlockRanks.NOT_POSSIBLE);
        DUE.is("states", x.count(3), 3);
        DUE.is("undo()", x.undo(), 2);
        DUE.is("leaves", x.table(1, 3), 7);
        leafIs(x, 1, 5, 6, 2, 2);
    }

    private static void splitAll() {
        DUE.promise("promise 7");
        BlockRanks x = new BlockRanks();
        int leaves = 1;
        for (int leaf = 0; leaf < 64; leaf++) {
            while (x.leaf(3, leaf, 2) > 1) {
                leaves += 3;
                DUE.is("split(3, " + leaf + ")", x.split(3, leaf), leaves);
            }
        }
        DUE.is("leaves", x.table(3, 3), 64);
        DUE.is("all leaves", x.count(2), 67);
        leafIs(x, 3, 63, 7, 7, 1);
        leafIs(x, 3, 21, 0, 7, 1);
        DUE.is("leaf 64", x.split(3, 64), BlockRanks.UNKNOWN);
        DUE.is("leaf 63", x.split(3, 63), BlockRanks.NOT_POSSIBLE);
    }

    private static void splitWrongLeaves() {
        DUE.promise("promise 7");
        BlockRanks x = new BlockRanks();
        for (int wrong : new int[] {LOWEST, -1, 1, HIGHEST}) {
            DUE.is("leaf " + wrong, x.split(0, wrong), BlockRanks.UNKNOWN);
        }
        for (int wrong : new int[] {LOWEST, -1, 4, HIGHEST}) {
            DUE.is("table " + wrong, x.split(wrong, 0), BlockRanks.UNKNOWN);
        }
        DUE.is("states", x.count(3), 0);
    }

    private static void join() {
        DUE.promise("promise 8");
        for (int leaf = 4; leaf < 8; leaf++) {
            BlockRanks x = new BlockRanks();
            x.split(0, 0);
            x.split(0, 1);
            x.split(0, 4);
            DUE.is("join(0, " + leaf + ")", x.join(0, leaf), 4);
            DUE.is("leaves", x.table(0, 3), 7);
            leafIs(x, 0, 4, 2, 6, 2);
            DUE.is("join(0, 2)", x.join(0, 2), 1);
            leafIs(x, 0, 1, 0, 4, 4);
            DUE.is("join(0, 3)", x.join(0, 3), 0);
            leafIs(x, 0, 0, 0, 0, 8);
            DUE.is("leaves", x.table(0, 3), 1);
            DUE.is("undo()", x.undo(), 3);
            DUE.is("leaves", x.table(0, 3), 4);
        }
    }

    private static void joinIsNotPossible() {
        DUE.promise("promise 8");
        BlockRanks x = new BlockRanks();
        DUE.is("no split", x.join(0, 0), BlockRanks.NOT_POSSIBLE);
        for (int wrong : new int[] {LOWEST, -1, 1, HIGHEST}) {
            DUE.is("leaf " + wrong, x.join(0, wrong), BlockRanks.UNKNOWN);
        }
        for (int wrong : new int[] {LOWEST, -1, 4, HIGHEST}) {
            DUE.is("table " + wrong, x.join(wrong, 0), BlockRanks.UNKNOWN);
        }
        x.split(0, 0);
        x.split(0, 3);
        for (int leaf = 0; leaf < 3; leaf++) {
            DUE.is("the fourth is split, leaf " + leaf, x.join(0, leaf), BlockRanks.NOT_POSSIBLE);
        }
        x.split(0, 0);
        DUE.is("the first and the fourth are split", x.join(0, 4), BlockRanks.NOT_POSSIBLE);
        DUE.is("states", x.count(3), 3);
        DUE.is("the first one's quarters", x.join(0, 0), 0);
        DUE.is("the fourth one's quarters", x.join(0, 6), 3);
        DUE.is("all", x.join(0, 3), 0);
    }

    private static void recompress() {
        DUE.promise("promise 9");
        BlockRanks x = new BlockRanks();
        DUE.is("zeros", x.recompress(0), BlockRanks.NONE);
        x.split(0, 0);
        DUE.is("zeros that are split", x.recompress(0), 0);
        DUE.is("leaves", x.table(0, 3), 1);
        x.set(0, 5, 6, 9);
        DUE.is("one number", x.recompress(0), 1);
        DUE.is("leaves", x.table(0, 3), 10);
        leafIs(x, 0, x.leafAt(0, 5, 6), 5, 6, 1);
        DUE.is("again", x.recompress(0), BlockRanks.NONE);
        DUE.is("states", x.count(3), 4);
        DUE.is("undo()", x.undo(), 3);
        DUE.is("leaves", x.table(0, 3), 1);
        DUE.is("cost", x.table(0, 4), 16);
        for (int wrong : new int[] {LOWEST, -1, 4, HIGHEST}) {
            DUE.is("table " + wrong, x.recompress(wrong), BlockRanks.UNKNOWN);
        }
    }

    private static void recompressWithEqualCosts() {
        DUE.promise("promise 9");
        BlockRanks x = new BlockRanks();
        Due.write(x, "1,1,1,1,1,1,1,1;1,1,1,1,1,1,1,1");
        x.addProduct(0, 0);
        x.split(0, 0);
        DUE.is("rank 1: 16, not 4 times 8", x.recompress(0), 16);
        DUE.is("leaves", x.table(0, 3), 1);
        // A block of the size 2 with all numbers but one costs 4 as a leaf and 3 when it is split.
        Due.fill(x, 1, new int[][] {{1, 2}, {3, 0}});
        DUE.is("three of four", x.recompress(1), 3);
        // With four numbers both cost 4, and no split is the least tree.
        Due.fill(x, 2, new int[][] {{1, 2}, {3, 5}});
        x.split(2, 0);
        x.split(2, 0);
        x.split(2, 0);
        DUE.is("four of four", x.recompress(2), 4);
        DUE.is("leaves", x.table(2, 3), 7);
        leafIs(x, 2, 0, 0, 0, 2);
    }

    private static void recompressInside() {
        DUE.promise("promise 9");
        BlockRanks x = new BlockRanks();
        Due.fill(x, 0, new int[][] {{1, 1, 1, 1}, {1, 1, 1, 1}, {1, 1, 1, 1}, {1, 1, 1, 1}, {0, 0, 0, 0, 5}});
        DUE.is("recompress(0)", x.recompress(0), 9);
        DUE.is("leaves", x.table(0, 3), 10);
        leafIs(x, 0, 0, 0, 0, 4);
        leafIs(x, 0, 3, 4, 4, 1);
        DUE.is("the cells stay", x.cell(0, 4, 4), 5);
        x.setPrime(5);
        DUE.is("modulo 5", x.recompress(0), 8);
        DUE.is("leaves", x.table(0, 3), 4);
    }
}
