/** Promises 15 to 22: what is told. */
public final class ToldTest {
    private static final int LOWEST = Integer.MIN_VALUE;
    private static final int HIGHEST = Integer.MAX_VALUE;
    private static final int[] NO_TABLES = {LOWEST, -1, 4, HIGHEST};
    private static final int[] NO_PLACES = {LOWEST, -1, 8, HIGHEST};

    private static final Due DUE = new Due("ToldTest");

    public static void main(String[] args) {
        cell();
        tableNumbers();
        tableDeterminant();
        tableCosts();
        leafNumbers();
        leafAt();
        differ();
        times();
        solve();
        solveWithoutASolution();
        rowsThatAreWrong();
        count();
        DUE.finish();
    }

    private static void cell() {
        DUE.promise("promise 15");
        BlockRanks x = new BlockRanks();
        x.set(0, 0, 7, 1);
        x.set(1, 7, 0, 2);
        x.set(2, 3, 5, 3);
        x.set(3, 7, 7, 4);
        DUE.is("cell(0, 0, 7)", x.cell(0, 0, 7), 1);
        DUE.is("cell(1, 7, 0)", x.cell(1, 7, 0), 2);
        DUE.is("cell(2, 3, 5)", x.cell(2, 3, 5), 3);
        DUE.is("cell(2, 5, 3)", x.cell(2, 5, 3), 0);
        DUE.is("cell(3, 7, 7)", x.cell(3, 7, 7), 4);
        for (int wrong : NO_TABLES) {
            DUE.is("table " + wrong, x.cell(wrong, 0, 0), BlockRanks.UNKNOWN);
        }
        for (int wrong : NO_PLACES) {
            DUE.is("row " + wrong, x.cell(0, wrong, 0), BlockRanks.UNKNOWN);
            DUE.is("column " + wrong, x.cell(0, 0, wrong), BlockRanks.UNKNOWN);
        }
    }

    private static void tableNumbers() {
        DUE.promise("promise 16");
        BlockRanks x = new BlockRanks();
        x.setPrime(7);
        Due.fill(x, 1, new int[][] {{1, 2, 3}, {2, 4, 6}, {0, 0, 5}, {6, 5, 4}});
        DUE.is("rank", x.table(1, 0), 2);
        DUE.is("determinant", x.table(1, 1), 0);
        DUE.is("sum of the diagonal", x.table(1, 2), 3);
        DUE.is("leaves", x.table(1, 3), 1);
        DUE.is("cost", x.table(1, 4), 32);
        DUE.is("cells that are not 0", x.table(1, 8), 10);
        DUE.is("greatest rank", x.table(1, 7), 2);
        x.split(1, 0);
        x.split(1, 0);
        DUE.is("greatest rank", x.table(1, 7), 1);
        DUE.is("leaves", x.table(1, 3), 7);
        x.set(1, 7, 7, 1);
        x.set(1, 6, 6, 1);
        DUE.is("greatest rank", x.table(1, 7), 2);
        DUE.is("sum of the diagonal", x.table(1, 2), 5);
        for (int wrong : new int[] {LOWEST, -1, 9, HIGHEST}) {
            DUE.is("what " + wrong, x.table(0, wrong), BlockRanks.BAD_VALUE);
            DUE.is("table and what " + wrong, x.table(-1, wrong), BlockRanks.UNKNOWN);
        }
        for (int what = 0; what < 9; what++) {
            for (int wrong : NO_TABLES) {
                DUE.is("table " + wrong, x.table(wrong, what), BlockRanks.UNKNOWN);
            }
        }
    }

    private static void tableDeterminant() {
        DUE.promise("promise 16");
        BlockRanks x = new BlockRanks();
        for (int i = 0; i < 8; i++) {
            x.set(2, i, 7 - i, 1);
        }
        DUE.is("four exchanges", x.table(2, 1), 1);
        DUE.is("rank", x.table(2, 0), 8);
        DUE.is("sum of the diagonal", x.table(2, 2), 0);
        x.set(2, 0, 7, 3);
        DUE.is("three times", x.table(2, 1), 3);
        BlockRanks y = new BlockRanks();
        Due.fillDiagonal(y, 0);
        DUE.is("sum of the diagonal", y.table(0, 2), 8);
        Due.fill(y, 0, new int[][] {{0, 1}, {1, 0}});
        DUE.is("one exchange", y.table(0, 1), 100);
        Due.fill(y, 0, new int[][] {{1, 2, 3}, {4, 5, 6}, {7, 8, 10}});
        DUE.is("-3", y.table(0, 1), 98);
        y.set(0, 2, 2, 9);
        DUE.is("0", y.table(0, 1), 0);
        DUE.is("rank", y.table(0, 0), 7);
        y.setPrime(3);
        DUE.is("rank modulo 3", y.table(0, 0), 6);
        y.setPrime(2);
        DUE.is("the determinant of zeros", y.table(1, 1), 0);
    }

    private static void tableCosts() {
        DUE.promise("promise 16");
        BlockRanks x = new BlockRanks();
        DUE.is("cost of zeros", x.table(0, 4), 0);
        DUE.is("least cost of zeros", x.table(0, 5), 0);
        DUE.is("least leaves of zeros", x.table(0, 6), 1);
        Due.fillDiagonal(x, 0);
        DUE.is("in full", x.table(0, 4), 64);
        DUE.is("least cost", x.table(0, 5), 8);
        DUE.is("least leaves", x.table(0, 6), 22);
        DUE.is("the tree stays", x.table(0, 3), 1);
        x.set(0, 7, 7, 0);
        x.set(0, 6, 6, 0);
        x.set(0, 5, 5, 0);
        x.set(0, 4, 4, 0);
        DUE.is("rank 4 costs as much", x.table(0, 4), 64);
        x.set(0, 3, 3, 0);
        DUE.is("rank 3", x.table(0, 4), 48);
        x.split(0, 0);
        DUE.is("rank 3 of 4", x.table(0, 4), 16);
        x.set(0, 2, 2, 0);
        x.set(0, 1, 1, 0);
        DUE.is("rank 1 of 4", x.table(0, 4), 8);
        x.set(0, 4, 0, 1);
        DUE.is("two leaves", x.table(0, 4), 16);
        x.split(0, 0);
        DUE.is("rank 1 of 2", x.table(0, 4), 12);
        x.split(0, 0);
        DUE.is("one of the size 1", x.table(0, 4), 9);
    }

    private static void leafNumbers() {
        DUE.promise("promise 17");
        BlockRanks x = new BlockRanks();
        x.split(2, 0);
        x.split(2, 3);
        Due.write(x, "1,1,1,1;1,2,3,4");
        x.addProduct(2, 1);
        x.set(2, 7, 7, 5);
        int[][] leaves = {{0, 0, 4, 0, 0, 1}, {0, 4, 4, 1, 8, 1}, {4, 0, 4, 0, 0, 1}, {4, 4, 2, 0, 0, 1},
            {4, 6, 2, 0, 0, 1}, {6, 4, 2, 0, 0, 1}, {6, 6, 2, 1, 4, 0}};
        for (int leaf = 0; leaf < leaves.length; leaf++) {
            for (int what = 0; what < 6; what++) {
                DUE.is("leaf(2, " + leaf + ", " + what + ")", x.leaf(2, leaf, what), leaves[leaf][what]);
            }
        }
        x.set(2, 0, 4, 9);
        DUE.is("rank 2 of 4", x.leaf(2, 1, 3), 2);
        DUE.is("it costs as much in full", x.leaf(2, 1, 4), 16);
        DUE.is("it is in full then", x.leaf(2, 1, 5), 0);
        x.split(2, 6);
        DUE.is("a number costs 1", x.leaf(2, 9, 4), 1);
        DUE.is("a number is in full", x.leaf(2, 9, 5), 0);
        DUE.is("0 costs 0", x.leaf(2, 8, 4), 0);
        DUE.is("0 is not in full", x.leaf(2, 8, 5), 1);
        for (int wrong : new int[] {LOWEST, -1, 10, HIGHEST}) {
            DUE.is("leaf " + wrong, x.leaf(2, wrong, 9), BlockRanks.UNKNOWN);
        }
        for (int wrong : new int[] {LOWEST, -1, 6, HIGHEST}) {
            DUE.is("what " + wrong, x.leaf(2, 9, wrong), BlockRanks.BAD_VALUE);
        }
        for (int wrong : NO_TABLES) {
            DUE.is("table " + wrong, x.leaf(wrong, 0, 0), BlockRanks.UNKNOWN);
        }
    }

    private static void leafAt() {
        DUE.promise("promise 18");
        BlockRanks x = new BlockRanks();
        DUE.is("no split", x.leafAt(0, 7, 7), 0);
        x.split(0, 0);
        x.split(0, 1);
        x.split(0, 3);
        int[][] leaves = {
            {0, 0, 0, 0, 1, 1, 2, 2}, {0, 0, 0, 0, 1, 1, 2, 2}, {0, 0, 0, 0, 3, 4, 7, 7}, {0, 0, 0, 0, 5, 6, 7, 7},
            {8, 8, 8, 8, 9, 9, 9, 9}, {8, 8, 8, 8, 9, 9, 9, 9}, {8, 8, 8, 8, 9, 9, 9, 9}, {8, 8, 8, 8, 9, 9, 9, 9}};
        for (int row = 0; row < 8; row++) {
            for (int column = 0; column < 8; column++) {
                DUE.is("leafAt(0, " + row + ", " + column + ")", x.leafAt(0, row, column), leaves[row][column]);
            }
        }
        for (int wrong : NO_TABLES) {
            DUE.is("table " + wrong, x.leafAt(wrong, 0, 0), BlockRanks.UNKNOWN);
        }
        for (int wrong : NO_PLACES) {
            DUE.is("row " + wrong, x.leafAt(0, wrong, 0), BlockRanks.UNKNOWN);
            DUE.is("column " + wrong, x.leafAt(0, 0, wrong), BlockRanks.UNKNOWN);
        }
    }

    private static void differ() {
        DUE.promise("promise 19");
        BlockRanks x = new BlockRanks();
        DUE.is("zeros", x.differ(0, 3), 0);
        Due.fillDiagonal(x, 0);
        x.set(3, 0, 0, 1);
        x.set(3, 1, 1, 2);
        x.set(3, 0, 7, 1);
        DUE.is("differ(0, 3)", x.differ(0, 3), 8);
        DUE.is("differ(3, 0)", x.differ(3, 0), 8);
        DUE.is("differ(0, 0)", x.differ(0, 0), 0);
        x.split(1, 0);
        DUE.is("trees don't count", x.differ(1, 2), 0);
        Due.write(x, "1,1,1,1,1,1,1,1;1,1,1,1,1,1,1,1");
        x.addProduct(2, 0);
        DUE.is("all", x.differ(1, 2), 64);
        for (int wrong : NO_TABLES) {
            DUE.is("table " + wrong, x.differ(wrong, 0), BlockRanks.UNKNOWN);
            DUE.is("other " + wrong, x.differ(0, wrong), BlockRanks.UNKNOWN);
        }
    }

    private static void times() {
        DUE.promise("promise 20");
        BlockRanks x = new BlockRanks();
        Due.fill(x, 1, new int[][] {{1, 2, 3}, {0, 50, 0, 0, 0, 0, 0, 100}});
        Due.write(x, "1,2,3,0,0,0,0,4");
        DUE.is("times(1, 0)", x.times(1, 0), 14);
        DUE.is("times(1, 1)", x.times(1, 1), 96);
        DUE.is("times(1, 7)", x.times(1, 7), 0);
        DUE.is("it is no act", x.undo(), 3);
        DUE.is("the text stays", x.clearText(), 15);
    }

    private static void solve() {
        DUE.promise("promise 21");
        BlockRanks x = new BlockRanks();
        for (int i = 0; i < 8; i++) {
            x.set(0, i, 7 - i, i + 1);
        }
        x.set(0, 7, 1, 3);
        Due.write(x, "5,2,6,4,10,12,7,10");
        int[] solution = {64, 1, 2, 2, 1, 2, 1, 5};
        for (int place = 0; place < 8; place++) {
            DUE.is("solve(0, " + place + ")", x.solve(0, place), solution[place]);
        }
        Due.write(x, "64,1,2,2,1,2,1,5");
        int[] row = {5, 2, 6, 4, 10, 12, 7, 10};
        for (int place = 0; place < 8; place++) {
            DUE.is("times(0, " + place + ")", x.times(0, place), row[place]);
        }
        BlockRanks y = new BlockRanks();
        y.setPrime(2);
        Due.fillDiagonal(y, 3);
        y.set(3, 0, 7, 1);
        Due.write(y, "0,1,0,1,0,1,0,1");
        DUE.is("solve(3, 0)", y.solve(3, 0), 1);
        DUE.is("solve(3, 1)", y.solve(3, 1), 1);
        DUE.is("solve(3, 2)", y.solve(3, 2), 0);
        DUE.is("it is no act", y.count(3), 4);
    }

    private static void solveWithoutASolution() {
        DUE.promise("promise 21");
        BlockRanks x = new BlockRanks();
        Due.write(x, "0,0,0,0,0,0,0,0");
        DUE.is("zeros", x.solve(0, 0), BlockRanks.NOT_POSSIBLE);
        Due.fillDiagonal(x, 0);
        DUE.is("solve(0, 0)", x.solve(0, 0), 0);
        x.set(0, 7, 7, 0);
        DUE.is("rank 7", x.solve(0, 0), BlockRanks.NOT_POSSIBLE);
        Due.write(x, "101,0,0,0,0,0,0,0");
        DUE.is("a number that is p comes first", x.solve(0, 0), BlockRanks.BAD_VALUE);
        DUE.is("a place comes first", x.solve(0, 8), BlockRanks.BAD_VALUE);
    }

    private static void rowsThatAreWrong() {
        BlockRanks x = new BlockRanks();
        String[] texts = {"", "1,2,3,4,5,6,7", "1,2,3,4,5,6,7,", "1,2,3,4,5,6,7,8,", "1,2,3,4,5,6,7,8;", "1,2,3,4,5,6,7;8",
            "1,2,3,4,5,6,7,08", "1,2,3,4,5,6,7,1000", "01,2,3,4,5,6,7,8", "1;2", "A=B", "1,2,3,4,5,6,7,8,9"};
        int[] faults = {0, 13, 14, 15, 15, 13, 15, 17, 1, 1, 0, 15};
        for (int i = 0; i < texts.length; i++) {
            Due.write(x, texts[i]);
            DUE.promise("promise 20");
            DUE.is("times with " + texts[i], x.times(0, 7), -100 - faults[i]);
            DUE.is("a wrong place", x.times(0, 8), BlockRanks.BAD_VALUE);
            DUE.promise("promise 21");
            DUE.is("solve with " + texts[i], x.solve(0, 0), -100 - faults[i]);
            DUE.is("a wrong place", x.solve(0, -1), BlockRanks.BAD_VALUE);
        }
        Due.write(x, "0,0,0,0,0,0,0,101");
        DUE.is("solve with 101", x.solve(0, 0), BlockRanks.BAD_VALUE);
        DUE.promise("promise 20");
        DUE.is("times with 101", x.times(0, 0), BlockRanks.BAD_VALUE);
        Due.write(x, "999,0,0,0,0,0,0,0x");
        DUE.is("the fault comes first", x.times(0, 0), -117);
        for (int wrong : NO_TABLES) {
            DUE.promise("promise 20");
            DUE.is("table " + wrong, x.times(wrong, wrong), BlockRanks.UNKNOWN);
            DUE.promise("promise 21");
            DUE.is("table " + wrong, x.solve(wrong, wrong), BlockRanks.UNKNOWN);
        }
        for (int wrong : NO_PLACES) {
            DUE.promise("promise 20");
            DUE.is("place " + wrong, x.times(0, wrong), BlockRanks.BAD_VALUE);
            DUE.promise("promise 21");
            DUE.is("place " + wrong, x.solve(0, wrong), BlockRanks.BAD_VALUE);
        }
    }

    private static void count() {
        DUE.promise("promise 22");
        BlockRanks x = new BlockRanks();
        x.setPrime(13);
        x.set(0, 0, 0, 1);
        x.set(3, 0, 0, 1);
        x.split(3, 0);
        Due.write(x, "A=B'");
        DUE.is("prime", x.count(0), 13);
        DUE.is("cost of all", x.count(1), 16 + 8);
        DUE.is("all leaves", x.count(2), 7);
        DUE.is("states", x.count(3), 4);
        DUE.is("length of text", x.count(4), 4);
        for (int wrong : new int[] {LOWEST, -1, 5, HIGHEST}) {
            DUE.is("count(" + wrong + ")", x.count(wrong), BlockRanks.BAD_VALUE);
        }
    }
}
