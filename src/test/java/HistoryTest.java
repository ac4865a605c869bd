/** Promises 12 to 14: undo, keep and restore. */
public final class HistoryTest {
    private static final Due DUE = new Due("HistoryTest");

    public static void main(String[] args) {
        undo();
        undoGoesFourStatesBack();
        undoBringsAllBack();
        keep();
        restore();
        restoreIsAnAct();
        errorsAreNoActs();
        DUE.finish();
    }

    private static void undo() {
        DUE.promise("promise 12");
        BlockRanks x = new BlockRanks();
        DUE.is("undo()", x.undo(), BlockRanks.NONE);
        x.set(0, 0, 0, 5);
        x.set(0, 0, 0, 6);
        DUE.is("undo()", x.undo(), 1);
        DUE.is("cell", x.cell(0, 0, 0), 5);
        x.set(0, 0, 0, 7);
        DUE.is("undo()", x.undo(), 1);
        DUE.is("undo()", x.undo(), 0);
        DUE.is("cell", x.cell(0, 0, 0), 0);
        DUE.is("undo()", x.undo(), BlockRanks.NONE);
        DUE.is("cell", x.cell(0, 0, 0), 0);
    }

    private static void undoGoesFourStatesBack() {
        DUE.promise("promise 12");
        BlockRanks x = new BlockRanks();
        for (int value = 1; value <= 11; value++) {
            x.set(2, 3, 4, value);
            DUE.is("states", x.count(3), Math.min(4, value));
        }
        for (int left = 3; left >= 0; left--) {
            DUE.is("undo()", x.undo(), left);
            DUE.is("cell", x.cell(2, 3, 4), 7 + left);
        }
        DUE.is("undo()", x.undo(), BlockRanks.NONE);
        DUE.is("cell", x.cell(2, 3, 4), 7);
    }

    private static void undoBringsAllBack() {
        DUE.promise("promise 12");
        BlockRanks x = new BlockRanks();
        Due.write(x, "1,2,3,4,5,6,7,8;1,1,1,1,1,1,1,1");
        x.addProduct(1, 0);
        x.split(1, 0);
        x.setPrime(3);
        x.recompress(1);
        DUE.is("undo()", x.undo(), 3);
        DUE.is("leaves", x.table(1, 3), 4);
        DUE.is("prime", x.count(0), 3);
        DUE.is("undo()", x.undo(), 2);
        DUE.is("prime", x.count(0), 101);
        DUE.is("cell(1, 7, 0)", x.cell(1, 7, 0), 8);
        DUE.is("undo()", x.undo(), 1);
        DUE.is("leaves", x.table(1, 3), 1);
        DUE.is("undo()", x.undo(), 0);
        DUE.cells("undo", x, 1, new int[0][0]);
        DUE.is("the text stays", x.count(4), 31);
    }

    private static void keep() {
        DUE.promise("promise 13");
        BlockRanks x = new BlockRanks();
        x.set(0, 1, 1, 1);
        DUE.is("keep()", x.keep(), 101);
        DUE.is("it is no act", x.count(3), 1);
        x.setPrime(5);
        x.set(0, 1, 1, 2);
        DUE.is("keep()", x.keep(), 5);
        x.set(0, 1, 1, 3);
        DUE.is("restore()", x.restore(), 5);
        DUE.is("the later one", x.cell(0, 1, 1), 2);
        x.undo();
        x.undo();
        x.undo();
        x.undo();
        DUE.is("prime", x.count(0), 101);
        DUE.is("undo leaves the snapshot", x.restore(), 5);
        DUE.is("cell", x.cell(0, 1, 1), 2);
    }

    private static void restore() {
        DUE.promise("promise 14");
        BlockRanks x = new BlockRanks();
        DUE.is("restore()", x.restore(), BlockRanks.NONE);
        DUE.is("it is no act then", x.count(3), 0);
        x.set(3, 0, 0, 50);
        x.split(3, 0);
        x.keep();
        x.setPrime(7);
        x.join(3, 2);
        x.set(2, 2, 2, 2);
        DUE.is("restore()", x.restore(), 101);
        DUE.is("cell(3, 0, 0)", x.cell(3, 0, 0), 50);
        DUE.is("cell(2, 2, 2)", x.cell(2, 2, 2), 0);
        DUE.is("leaves", x.table(3, 3), 4);
        DUE.is("prime", x.count(0), 101);
        x.set(3, 0, 0, 51);
        x.split(3, 0);
        DUE.is("the snapshot stays", x.restore(), 101);
        DUE.is("cell(3, 0, 0)", x.cell(3, 0, 0), 50);
        DUE.is("leaves", x.table(3, 3), 4);
    }

    private static void restoreIsAnAct() {
        DUE.promise("promise 14");
        BlockRanks x = new BlockRanks();
        x.keep();
        DUE.is("nothing changes", x.restore(), 101);
        DUE.is("states", x.count(3), 1);
        x.setPrime(2);
        x.restore();
        DUE.is("undo()", x.undo(), 2);
        DUE.is("prime", x.count(0), 2);
        Due.write(x, "A=B");
        x.restore();
        DUE.is("the text stays", x.count(4), 3);
    }

    private static void errorsAreNoActs() {
        DUE.promise("promise 12");
        BlockRanks x = new BlockRanks();
        Due.write(x, "A");
        x.setPrime(101);
        x.setPrime(4);
        x.set(0, 0, 0, 0);
        x.set(0, 0, 0, 101);
        x.addProduct(0, 0);
        x.addProduct(0, 9);
        x.work();
        x.factor(0, 1, 2);
        x.split(0, 1);
        x.join(0, 0);
        x.recompress(0);
        x.restore();
        x.undo();
        x.keep();
        DUE.is("states", x.count(3), 0);
    }
}
