/** Promises 1 to 6: a new object, and what changes cells. */
public final class CellsTest {
    private static final int LOWEST = Integer.MIN_VALUE;
    private static final int HIGHEST = Integer.MAX_VALUE;

    private static final Due DUE = new Due("CellsTest");

    public static void main(String[] args) {
        newObject();
        setPrime();
        setPrimeKnowsAllPrimes();
        set();
        addProduct();
        addProductToSmallLeaves();
        addProductWithWrongTexts();
        workOutFormulas();
        workOnTheTableItself();
        workWithWrongTexts();
        factor();
        factorInItsOwnPlace();
        factorThatIsNotPossible();
        factorWithWrongTables();
        DUE.finish();
    }

    private static void newObject() {
        DUE.promise("promise 1");
        BlockRanks x = new BlockRanks();
        for (int table = 0; table < 4; table++) {
            DUE.cells("new", x, table, new int[0][0]);
            DUE.is("leaves", x.table(table, 3), 1);
            DUE.is("size of leaf 0", x.leaf(table, 0, 2), 8);
        }
        DUE.is("prime", x.count(0), 101);
        DUE.is("cost of all", x.count(1), 0);
        DUE.is("all leaves", x.count(2), 4);
        DUE.is("states", x.count(3), 0);
        DUE.is("length of text", x.count(4), 0);
        DUE.is("undo()", x.undo(), BlockRanks.NONE);
        DUE.is("restore()", x.restore(), BlockRanks.NONE);
    }

    private static void setPrime() {
        DUE.promise("promise 2");
        BlockRanks x = new BlockRanks();
        DUE.is("setPrime(101)", x.setPrime(101), BlockRanks.NONE);
        DUE.is("states", x.count(3), 0);
        for (int table = 0; table < 4; table++) {
            x.set(table, 7, table, 100 - table);
        }
        DUE.is("setPrime(7)", x.setPrime(7), 101);
        for (int table = 0; table < 4; table++) {
            DUE.is("cell after 7", x.cell(table, 7, table), (100 - table) % 7);
        }
        DUE.is("setPrime(251)", x.setPrime(251), 7);
        DUE.is("cell after 251", x.cell(0, 7, 0), 100 % 7);
        DUE.is("setPrime(2)", x.setPrime(2), 251);
        DUE.is("cell after 2", x.cell(0, 7, 0), 0);
        DUE.is("undo()", x.undo(), 3);
        DUE.is("prime after undo", x.count(0), 251);
        DUE.is("cell after undo", x.cell(0, 7, 0), 2);
        for (int wrong : new int[] {LOWEST, -101, -7, -1, 0, 1, 252, 257, 46337, HIGHEST}) {
            DUE.is("setPrime(" + wrong + ")", x.setPrime(wrong), BlockRanks.BAD_VALUE);
        }
        DUE.is("prime", x.count(0), 251);
        DUE.is("states", x.count(3), 3);
    }

    private static void setPrimeKnowsAllPrimes() {
        DUE.promise("promise 2");
        BlockRanks x = new BlockRanks();
        int primes = 0;
        int previous = 101;
        for (int number = 2; number <= 251; number++) {
            int divisors = 0;
            for (int i = 1; i <= number; i++) {
                divisors += number % i == 0 ? 1 : 0;
            }
            if (divisors != 2) {
                DUE.is("setPrime(" + number + ")", x.setPrime(number), BlockRanks.BAD_VALUE);
            } else {
                DUE.is("setPrime(" + number + ")", x.setPrime(number), number == previous ? BlockRanks.NONE : previous);
                previous = number;
                primes++;
            }
        }
        DUE.is("primes up to 251", primes, 54);
    }

    private static void set() {
        DUE.promise("promise 3");
        BlockRanks x = new BlockRanks();
        DUE.is("set(3, 7, 7, 100)", x.set(3, 7, 7, 100), 0);
        DUE.is("set(3, 7, 7, 1)", x.set(3, 7, 7, 1), 100);
        DUE.is("set(3, 7, 7, 1) again", x.set(3, 7, 7, 1), BlockRanks.NONE);
        DUE.is("set(0, 0, 0, 0)", x.set(0, 0, 0, 0), BlockRanks.NONE);
        DUE.is("states", x.count(3), 2);
        DUE.is("cell(3, 7, 7)", x.cell(3, 7, 7), 1);
        DUE.is("cell(2, 7, 7)", x.cell(2, 7, 7), 0);
        DUE.is("value p", x.set(0, 0, 0, 101), BlockRanks.BAD_VALUE);
        DUE.is("value -1", x.set(0, 0, 0, -1), BlockRanks.BAD_VALUE);
        DUE.is("lowest value", x.set(0, 0, 0, LOWEST), BlockRanks.BAD_VALUE);
        DUE.is("highest value", x.set(0, 0, 0, HIGHEST), BlockRanks.BAD_VALUE);
        for (int wrong : new int[] {LOWEST, -1, 8, HIGHEST}) {
            DUE.is("row " + wrong, x.set(0, wrong, 0, -1), BlockRanks.UNKNOWN);
            DUE.is("column " + wrong, x.set(0, 0, wrong, -1), BlockRanks.UNKNOWN);
            DUE.is("table " + wrong, x.set(wrong, 0, 0, -1), BlockRanks.UNKNOWN);
        }
        DUE.is("table 4", x.set(4, 0, 0, 1), BlockRanks.UNKNOWN);
        DUE.is("states after errors", x.count(3), 2);
        x.setPrime(5);
        DUE.is("value 5 modulo 5", x.set(0, 0, 0, 5), BlockRanks.BAD_VALUE);
        DUE.is("value 4 modulo 5", x.set(0, 0, 0, 4), 0);
    }

    private static void addProduct() {
        DUE.promise("promise 4");
        BlockRanks x = new BlockRanks();
        Due.write(x, "1,2,0,0,0,0,0,3;10,0,50,0,0,0,0,100");
        DUE.is("addProduct(1, 0)", x.addProduct(1, 0), 1);
        DUE.cells("addProduct(1, 0)", x, 1, new int[][] {{10, 0, 50, 0, 0, 0, 0, 100}, {20, 0, 100, 0, 0, 0, 0, 99},
            {}, {}, {}, {}, {}, {30, 0, 49, 0, 0, 0, 0, 98}});
        DUE.is("the text stays", x.count(4), 35);
        DUE.is("addProduct(1, 0) again", x.addProduct(1, 0), 1);
        DUE.is("cell(1, 7, 2)", x.cell(1, 7, 2), 98);
        DUE.is("states", x.count(3), 2);
        Due.write(x, "0,0,1,0,0,0,0,0;0,0,0,0,0,0,0,1");
        DUE.is("another row", x.addProduct(1, 0), 2);
        Due.write(x, "0,0,0,0,0,0,0,0;1,1,1,1,1,1,1,1");
        DUE.is("nothing is added", x.addProduct(1, 0), 2);
        DUE.is("it is an act all the same", x.count(3), 4);
        Due.write(x, "0,0,100,0,0,0,0,0;0,0,0,0,0,0,0,1");
        DUE.is("taken away again", x.addProduct(1, 0), 1);
    }

    private static void addProductToSmallLeaves() {
        DUE.promise("promise 4");
        BlockRanks x = new BlockRanks();
        x.split(2, 0);
        x.split(2, 1);
        Due.write(x, "1,2;3,4");
        DUE.is("a leaf of the size 2", x.addProduct(2, 3), 1);
        DUE.cells("addProduct(2, 3)", x, 2, new int[][] {{}, {}, {0, 0, 0, 0, 3, 4}, {0, 0, 0, 0, 6, 8}});
        DUE.is("a leaf of the size 4", x.addProduct(2, 0), -103);
        Due.write(x, "1,0,0,0;0,0,0,5");
        DUE.is("a leaf of the size 4", x.addProduct(2, 6), 1);
        DUE.is("cell(2, 4, 7)", x.cell(2, 4, 7), 5);
        x.split(2, 1);
        Due.write(x, "100;100");
        DUE.is("a leaf of the size 1", x.addProduct(2, 4), 1);
        DUE.is("cell(2, 1, 5)", x.cell(2, 1, 5), 1);
        Due.write(x, "1;100");
        DUE.is("it becomes 0", x.addProduct(2, 4), 0);
    }

    private static void addProductWithWrongTexts() {
        DUE.promise("promise 4");
        BlockRanks x = new BlockRanks();
        x.split(0, 0);
        x.split(0, 0);
        String[] texts = {"", "1", "1,", "1,2", "1,2;", "1,2;3", "1,2;3,", ",", ";", "1;", "1,2,", "1,2;3,4,", "1,2;3,4;",
            "01,2;3,4", "1,00;3,4", "1234,2;3,4", "1,2;3,4567", "1,2;3,04", "1,2;3,4 ", " 1,2;3,4", "1,2;-3,4",
            "1,,2;3,4", "1,2;;3,4", "1,2;3;4", "12,345;6,7x", "1,2:3,4", "1/2;3,4", "1,2;3,4\u00e9", "\u0131,2;3,4"};
        int[] faults = {0, 1, 2, 3, 4, 5, 6, 0, 0, 1, 3, 7, 7,
            1, 3, 3, 9, 7, 7, 0, 4,
            2, 4, 5, 10, 3, 1, 7, 0};
        for (int i = 0; i < texts.length; i++) {
            Due.write(x, texts[i]);
            DUE.is("addProduct with \"" + texts[i] + "\"", x.addProduct(0, 0), -100 - faults[i]);
        }
        Due.write(x, "1,101;0,0");
        DUE.is("a number that is p", x.addProduct(0, 0), BlockRanks.BAD_VALUE);
        Due.write(x, "1,1;0,999");
        DUE.is("the last number too large", x.addProduct(0, 0), BlockRanks.BAD_VALUE);
        Due.write(x, "999,1;0,9999");
        DUE.is("the fault comes first", x.addProduct(0, 0), -111);
        for (int wrong : new int[] {LOWEST, -1, 7, HIGHEST}) {
            DUE.is("leaf " + wrong, x.addProduct(0, wrong), BlockRanks.UNKNOWN);
        }
        DUE.is("table -1", x.addProduct(-1, 0), BlockRanks.UNKNOWN);
        DUE.is("table 4", x.addProduct(4, 0), BlockRanks.UNKNOWN);
        DUE.cells("errors", x, 0, new int[0][0]);
        DUE.is("states", x.count(3), 2);
        Due.write(x, "0,100;100,0");
        DUE.is("a right text", x.addProduct(0, 0), 1);
        x.setPrime(2);
        DUE.is("numbers not less than 2", x.addProduct(0, 0), BlockRanks.BAD_VALUE);
    }

    private static BlockRanks twoTables() {
        BlockRanks x = new BlockRanks();
        Due.fill(x, 0, new int[][] {{1, 2}, {3, 100}});
        Due.fill(x, 1, new int[][] {{10, 20}, {30, 40}});
        return x;
    }

    private static void workOutFormulas() {
        DUE.promise("promise 5");
        String[] formulas = {"D=A", "D=A+B", "D=A-B", "D=A*B", "D=A'", "D=B*A"};
        int[][][] cells = {{{1, 2}, {3, 100}}, {{11, 22}, {33, 39}}, {{92, 83}, {74, 60}}, {{70, 100}, {0, 20}},
            {{1, 3}, {2, 100}}, {{70, 0}, {49, 20}}};
        for (int i = 0; i < formulas.length; i++) {
            BlockRanks x = twoTables();
            x.split(3, 0);
            Due.write(x, formulas[i]);
            DUE.is(formulas[i], x.work(), 3);
            DUE.cells(formulas[i], x, 3, cells[i]);
            DUE.cells(formulas[i], x, 0, cells[0]);
            DUE.is("the tree stays", x.table(3, 3), 4);
            DUE.is("the text stays", x.clearText(), formulas[i].length());
        }
        BlockRanks x = twoTables();
        x.set(0, 7, 0, 5);
        x.set(0, 0, 7, 6);
        Due.write(x, "C=A'");
        DUE.is("C=A'", x.work(), 2);
        DUE.is("cell(2, 0, 7)", x.cell(2, 0, 7), 5);
        DUE.is("cell(2, 7, 0)", x.cell(2, 7, 0), 6);
        Due.write(x, "B=D");
        DUE.is("B=D", x.work(), 1);
        DUE.cells("B=D", x, 1, new int[0][0]);
    }

    private static void workOnTheTableItself() {
        DUE.promise("promise 5");
        String[] formulas = {"A=A", "A=A+A", "A=A-A", "A=A*A", "A=A'", "A=B*A", "A=A*B", "A=B-A"};
        int[][][] cells = {{{1, 2}, {3, 100}}, {{2, 4}, {6, 99}}, {{}}, {{7, 0}, {0, 7}}, {{1, 3}, {2, 100}},
            {{70, 0}, {49, 20}}, {{70, 100}, {0, 20}}, {{9, 18}, {27, 41}}};
        for (int i = 0; i < formulas.length; i++) {
            BlockRanks x = twoTables();
            x.clearText();
            x.keep();
            x.restore();
            Due.write(x, formulas[i]);
            DUE.is(formulas[i], x.work(), 0);
            DUE.cells(formulas[i], x, 0, cells[i]);
            DUE.is("it is an act", x.undo(), 3);
            DUE.cells("undo", x, 0, cells[0]);
        }
    }

    private static void workWithWrongTexts() {
        DUE.promise("promise 5");
        BlockRanks x = twoTables();
        x.setPrime(97);
        String[] texts = {"", "A", "A=", "A=B+", "A=B-", "A=B*", "E=A", "@=A", "a=A", "A+B", "A=E", "A=b", "A==B", "A=B/C",
            "A=B+E", "A=B''", "A=B'+C", "A=B+C'", "A=B+C+D", "A=BC", "A=B ", " A=B", "A =B", "A= B", "A=B*\u0141", "0"};
        int[] faults = {0, 1, 2, 4, 4, 4, 0, 0, 0, 1, 2, 2, 2, 3,
            4, 4, 4, 5, 5, 3, 3, 0, 1, 2, 4, 0};
        for (int i = 0; i < texts.length; i++) {
            Due.write(x, texts[i]);
            DUE.is("work() with \"" + texts[i] + "\"", x.work(), -100 - faults[i]);
        }
        DUE.cells("errors", x, 0, new int[][] {{1, 2}, {3, 3}});
        DUE.is("states left", x.undo(), 3);
        DUE.is("prime", x.count(0), 101);
    }

    private static void factor() {
        DUE.promise("promise 6");
        BlockRanks x = new BlockRanks();
        x.setPrime(7);
        Due.fillDiagonal(x, 0);
        Due.fill(x, 0, new int[][] {{2, 3, 1}, {4, 1, 0}, {6, 6, 5}});
        x.split(1, 0);
        DUE.is("factor(0, 1, 2)", x.factor(0, 1, 2), 3);
        DUE.cells("lower", x, 1, new int[][] {{1}, {2, 1}, {3, 2, 1}, {0, 0, 0, 1}, {0, 0, 0, 0, 1},
            {0, 0, 0, 0, 0, 1}, {0, 0, 0, 0, 0, 0, 1}, {0, 0, 0, 0, 0, 0, 0, 1}});
        DUE.cells("upper", x, 2, new int[][] {{2, 3, 1}, {0, 2, 5}, {0, 0, 6}, {0, 0, 0, 1}, {0, 0, 0, 0, 1},
            {0, 0, 0, 0, 0, 1}, {0, 0, 0, 0, 0, 0, 1}, {0, 0, 0, 0, 0, 0, 0, 1}});
        DUE.is("the table stays", x.cell(0, 2, 1), 6);
        DUE.is("the tree stays", x.table(1, 3), 4);
        DUE.is("it is an act", x.count(3), 4);
        DUE.is("undo()", x.undo(), 3);
        DUE.cells("undo", x, 1, new int[0][0]);
        DUE.cells("undo", x, 2, new int[0][0]);
        x.set(0, 7, 7, 0);
        DUE.is("the last number is 0", x.factor(0, 1, 2), 0);
        DUE.is("cell(1, 7, 7)", x.cell(1, 7, 7), 1);
        DUE.is("cell(2, 7, 7)", x.cell(2, 7, 7), 0);
    }

    private static void factorInItsOwnPlace() {
        DUE.promise("promise 6");
        for (int own = 0; own < 2; own++) {
            BlockRanks x = new BlockRanks();
            Due.fillDiagonal(x, 3);
            Due.fill(x, 3, new int[][] {{2, 3}, {4, 1}});
            int lower = own == 0 ? 3 : 0;
            int upper = own == 0 ? 0 : 3;
            DUE.is("factor", x.factor(3, lower, upper), 91);
            DUE.is("lower 1, 0", x.cell(lower, 1, 0), 2);
            DUE.is("lower 0, 1", x.cell(lower, 0, 1), 0);
            DUE.is("lower 0, 0", x.cell(lower, 0, 0), 1);
            DUE.is("upper 0, 0", x.cell(upper, 0, 0), 2);
            DUE.is("upper 0, 1", x.cell(upper, 0, 1), 3);
            DUE.is("upper 1, 0", x.cell(upper, 1, 0), 0);
            DUE.is("upper 1, 1", x.cell(upper, 1, 1), 96);
        }
    }

    private static void factorThatIsNotPossible() {
        DUE.promise("promise 6");
        for (int zero = 0; zero < 8; zero++) {
            BlockRanks x = new BlockRanks();
            Due.fillDiagonal(x, 0);
            x.set(0, zero, zero, 0);
            int states = x.count(3);
            DUE.is("zero " + zero, x.factor(0, 1, 2), zero == 7 ? 0 : BlockRanks.NOT_POSSIBLE);
            DUE.is("cell(1, 7, 7)", x.cell(1, 7, 7), zero == 7 ? 1 : 0);
            DUE.is("states", x.count(3), states);
        }
        BlockRanks x = new BlockRanks();
        DUE.is("zeros", x.factor(0, 1, 2), BlockRanks.NOT_POSSIBLE);
        DUE.is("states", x.count(3), 0);
        Due.fillDiagonal(x, 0);
        Due.fill(x, 0, new int[][] {{1, 2}, {2, 4, 1}, {0, 1, 0}});
        DUE.is("a 0 that comes up", x.factor(0, 1, 2), BlockRanks.NOT_POSSIBLE);
        DUE.is("though the determinant is not 0", x.table(0, 1), 100);
    }

    private static void factorWithWrongTables() {
        DUE.promise("promise 6");
        BlockRanks x = new BlockRanks();
        for (int wrong : new int[] {LOWEST, -1, 4, HIGHEST}) {
            DUE.is("table " + wrong, x.factor(wrong, 1, 1), BlockRanks.UNKNOWN);
            DUE.is("lower " + wrong, x.factor(0, wrong, 1), BlockRanks.UNKNOWN);
            DUE.is("upper " + wrong, x.factor(0, 1, wrong), BlockRanks.UNKNOWN);
            DUE.is("both " + wrong, x.factor(0, wrong, wrong), BlockRanks.UNKNOWN);
        }
        DUE.is("the same, before it is not possible", x.factor(0, 3, 3), BlockRanks.BAD_VALUE);
        Due.fillDiagonal(x, 0);
        DUE.is("the same", x.factor(0, 0, 0), BlockRanks.BAD_VALUE);
        DUE.is("other ones", x.factor(0, 2, 3), 1);
    }
}
