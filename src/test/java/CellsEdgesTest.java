/**
 * Promises 1 to 6, and the sentences under TABLES: a test for each sentence, at its edges.
 * The first remark of a test names the promise and the sentence; SentencesTest compares it with the document.
 */
public final class CellsEdgesTest {
    /** The determinant of the powers of 0 to 7: 1! 2! 3! 4! 5! 6! 7!, modulo 251. */
    private static final int POWERS_DETERMINANT = (int) (125411328000L % 251);

    private static final Due DUE = new Due("CellsEdgesTest");

    public static void main(String[] args) {
        fourTablesOfZeros();
        firstPrime();
        fourTablesOfEightRows();
        cellsAreRemainders();
        sumsAreModuloThePrime();
        productsAreModuloThePrime();
        quotients();
        primes();
        noPrimes();
        cellsBecomeRemainders();
        previousPrime();
        primeIsSoAlready();
        setTables();
        setRows();
        setColumns();
        setValues();
        setACellAlone();
        setReturnsThePreviousValue();
        setIsSoAlready();
        addProductToTables();
        addProductToLeaves();
        addProductOfAsManyNumbers();
        addProductAddsInTheLeafAlone();
        addProductWrapsAround();
        addProductReturnsTheRank();
        addProductWithAFault();
        addProductWithNumbersNotLessThanThePrime();
        addProductLeavesTheText();
        workOnEachTable();
        workLeavesTrees();
        workOutEachOperation();
        workReadsTablesAsTheyAreBefore();
        workWithAFault();
        workLeavesTheText();
        factorTables();
        factorLowerTables();
        factorUpperTables();
        factorsMakeTheTable();
        factorReturnsTheProductOfTheDiagonal();
        factorIntoTheSameTable();
        factorWithAZeroOnTheDiagonal();
        factorWithALastZeroOnTheDiagonal();
        factorLeavesTrees();
        DUE.finish();
    }

    // ---- promise 1

    /** Promise 1: "Creates four tables of zeros that are not split." */
    private static void fourTablesOfZeros() {
        DUE.promise("promise 1, zeros that are not split");
        BlockRanks x = new BlockRanks();
        for (int table = 0; table < 4; table++) {
            DUE.cells("new", x, table, new int[0][0]);
            DUE.is("cells of table " + table + " that are not 0", x.table(table, 8), 0);
            DUE.is("leaves of table " + table, x.table(table, 3), 1);
            DUE.is("size of the leaf of table " + table, x.leaf(table, 0, 2), 8);
        }
    }

    /** Promise 1, TABLES: "There is a prime p (2 to 251; at first 101)." */
    private static void firstPrime() {
        DUE.promise("promise 1, at first 101");
        BlockRanks x = new BlockRanks();
        DUE.is("count(0)", x.count(0), 101);
        DUE.is("the greatest value", x.set(0, 0, 0, 100), 0);
        DUE.is("one more", x.set(0, 0, 0, 101), BlockRanks.BAD_VALUE);
        DUE.is("setPrime(101)", x.setPrime(101), BlockRanks.NONE);
        DUE.is("setPrime(2)", x.setPrime(2), 101);
        DUE.is("setPrime(251)", x.setPrime(251), 2);
        DUE.is("count(0)", x.count(0), 251);
    }

    /**
     * Promise 1, TABLES: "There are four tables, A, B, C and D, numbered 0 to 3, each of 8 rows and 8 columns,
     * numbered from 0." All 256 cells are different ones.
     */
    private static void fourTablesOfEightRows() {
        DUE.promise("promise 1, four tables of 8 rows and 8 columns");
        for (int half = 0; half < 2; half++) {
            BlockRanks x = new BlockRanks();
            x.setPrime(251);
            for (int i = 0; i < 128; i++) {
                DUE.is("set", x.set(half * 2 + i / 64, i / 8 % 8, i % 8, i + 1), 0);
            }
            for (int i = 0; i < 256; i++) {
                int want = i / 128 == half ? i % 128 + 1 : 0;
                DUE.is("cell " + i, x.cell(i / 64, i / 8 % 8, i % 8), want);
            }
        }
    }

    /** Promise 1, TABLES: "A cell is a remainder from 0 to p - 1 (0 at first)." */
    private static void cellsAreRemainders() {
        DUE.promise("promise 1, a cell is a remainder");
        for (int prime : new int[] {2, 3, 101, 251}) {
            BlockRanks x = new BlockRanks();
            x.setPrime(prime);
            DUE.is("the first value", x.cell(3, 7, 7), 0);
            x.set(3, 7, 7, prime - 1);
            DUE.is("the greatest value", x.cell(3, 7, 7), prime - 1);
            Due.write(x, "D=D+D");
            x.work();
            DUE.is("twice the greatest value", x.cell(3, 7, 7), prime - 2);
            Due.write(x, "D=C-D");
            x.work();
            DUE.is("less than 0", x.cell(3, 7, 7), 2 % prime);
        }
    }

    /** Promise 5, TABLES: "All sums and products are modulo p". Sums: at p - 1, at p and below 0. */
    private static void sumsAreModuloThePrime() {
        DUE.promise("promise 5, sums are modulo p");
        for (int prime : new int[] {2, 3, 101, 251}) {
            int[][] pairs = {{0, prime - 1}, {1, prime - 1}, {1, prime - 2}, {prime - 1, prime - 1}, {prime - 1, 0}};
            for (int[] pair : pairs) {
                BlockRanks x = new BlockRanks();
                x.setPrime(prime);
                x.set(0, 4, 4, pair[0]);
                x.set(1, 4, 4, pair[1]);
                Due.write(x, "C=A+B");
                x.work();
                DUE.is(pair[0] + " + " + pair[1], x.cell(2, 4, 4), (pair[0] + pair[1]) % prime);
                Due.write(x, "C=A-B");
                x.work();
                DUE.is(pair[0] + " - " + pair[1], x.cell(2, 4, 4), (pair[0] + prime - pair[1]) % prime);
                x.set(0, 5, 5, pair[1]);
                DUE.is("on the diagonal", x.table(0, 2), (pair[0] + pair[1]) % prime);
            }
        }
    }

    /** Promise 5, TABLES: "All sums and products are modulo p". Products: the dearest ones, of p - 1 alone. */
    private static void productsAreModuloThePrime() {
        DUE.promise("promise 5, products are modulo p");
        for (int prime : new int[] {2, 3, 101, 251}) {
            BlockRanks x = new BlockRanks();
            x.setPrime(prime);
            for (int i = 0; i < 64; i++) {
                x.set(0, i / 8, i % 8, prime - 1);
            }
            Due.write(x, "B=A*A");
            DUE.is("work()", x.work(), 1);
            for (int i = 0; i < 64; i++) {
                DUE.is("(p - 1) * (p - 1), eight times", x.cell(1, i / 8, i % 8), 8 % prime);
            }
            DUE.is("the diagonal", x.table(0, 2), (8 * (prime - 1)) % prime);
        }
    }

    /**
     * Promise 21, TABLES: "a quotient a / b is that remainder q for which q * b is a (b is not 0)."
     * Every b of every prime, eight of them in one table.
     */
    private static void quotients() {
        DUE.promise("promise 21, quotients");
        for (int prime : new int[] {2, 3, 5, 101, 251}) {
            for (int first = 1; first < prime; first += 8) {
                BlockRanks x = new BlockRanks();
                x.setPrime(prime);
                Due.fillDiagonal(x, 0);
                for (int i = 0; i < 8; i++) {
                    x.set(0, i, i, Math.min(prime - 1, first + i));
                }
                for (int a : new int[] {0, 1, prime - 1}) {
                    Due.write(x, eight(a));
                    for (int i = 0; i < 8; i++) {
                        int quotient = x.solve(0, i);
                        DUE.holds("a quotient is a remainder", quotient >= 0 && quotient < prime);
                        DUE.is("q * b", quotient * Math.min(prime - 1, first + i) % prime, a);
                    }
                }
            }
        }
    }

    private static String eight(int number) {
        String comma = "," + number;
        return number + comma.repeat(7);
    }

    // ---- promise 2

    /** Promise 2: "prime: a prime from 2 to 251". All 54 of them, the least and the greatest too. */
    private static void primes() {
        DUE.promise("promise 2, a prime from 2 to 251");
        BlockRanks x = new BlockRanks();
        x.setPrime(103);
        int found = 0;
        int previous = 103;
        for (int number = 2; number <= 251; number++) {
            if (isPrime(number)) {
                int answer = x.setPrime(number);
                DUE.is("setPrime(" + number + ")", answer, number == previous ? BlockRanks.NONE : previous);
                DUE.is("count(0)", x.count(0), number);
                previous = number;
                found++;
            }
        }
        DUE.is("primes", found, 54);
        DUE.is("the greatest one", previous, 251);
    }

    private static boolean isPrime(int number) {
        return java.math.BigInteger.valueOf(number).isProbablePrime(40);
    }

    /** Promise 2: "BAD_VALUE (also if it is no prime)". Too small, too large, and all between that are no primes. */
    private static void noPrimes() {
        DUE.promise("promise 2, no prime");
        BlockRanks x = new BlockRanks();
        for (int number = -252; number <= 260; number++) {
            boolean isWrong = number < 2 || number > 251 || !isPrime(number);
            if (isWrong) {
                DUE.is("setPrime(" + number + ")", x.setPrime(number), BlockRanks.BAD_VALUE);
            }
        }
        BlockRanks y = new BlockRanks();
        int[] numbers = {Integer.MIN_VALUE, Integer.MIN_VALUE + 1, -101, 263, 509, 256 + 101, 65536 + 101, 46337, 46349,
            Integer.MAX_VALUE - 1, Integer.MAX_VALUE};
        for (int number : numbers) {
            DUE.is("setPrime(" + number + ")", y.setPrime(number), BlockRanks.BAD_VALUE);
        }
        DUE.is("count(0)", y.count(0), 101);
        DUE.is("count(3)", y.count(3), 0);
    }

    /** Promise 2: "Changes the prime: each cell becomes its remainder modulo the new one." */
    private static void cellsBecomeRemainders() {
        DUE.promise("promise 2, remainders modulo the new one");
        int[] values = {0, 1, 6, 7, 8, 13, 14, 250};
        BlockRanks x = new BlockRanks();
        x.setPrime(251);
        for (int i = 0; i < 32; i++) {
            x.set(i / 8, i % 8, 7 - i % 8, values[i % 8]);
        }
        x.setPrime(7);
        for (int i = 0; i < 32; i++) {
            DUE.is("modulo 7: " + values[i % 8], x.cell(i / 8, i % 8, 7 - i % 8), values[i % 8] % 7);
        }
        x.setPrime(251);
        for (int i = 0; i < 32; i++) {
            DUE.is("modulo 251 then", x.cell(i / 8, i % 8, 7 - i % 8), values[i % 8] % 7);
        }
    }

    /** Promise 2: "Returns the previous one". */
    private static void previousPrime() {
        DUE.promise("promise 2, the previous one");
        BlockRanks x = new BlockRanks();
        DUE.is("from the first one", x.setPrime(2), 101);
        DUE.is("from the least one", x.setPrime(251), 2);
        DUE.is("from the greatest one", x.setPrime(101), 251);
        x.undo();
        DUE.is("from one that came back", x.setPrime(3), 251);
    }

    /** Promise 2: "NONE if it is so already". */
    private static void primeIsSoAlready() {
        DUE.promise("promise 2, it is so already");
        BlockRanks x = new BlockRanks();
        DUE.is("the first one", x.setPrime(101), BlockRanks.NONE);
        x.setPrime(2);
        DUE.is("2 again", x.setPrime(2), BlockRanks.NONE);
        x.undo();
        DUE.is("101 again", x.setPrime(101), BlockRanks.NONE);
        DUE.is("no longer 2", x.setPrime(2), 101);
    }

    // ---- promise 3

    /** Promise 3: "table: 0 to 3". */
    private static void setTables() {
        DUE.promise("promise 3, table");
        BlockRanks x = new BlockRanks();
        for (int table = 0; table < 4; table++) {
            DUE.is("table " + table, x.set(table, 1, 2, table + 1), 0);
        }
        for (int table : Due.outside(4)) {
            DUE.is("table " + table, x.set(table, 1, 2, 50), BlockRanks.UNKNOWN);
        }
        for (int table = 0; table < 4; table++) {
            DUE.is("cell of " + table, x.cell(table, 1, 2), table + 1);
        }
    }

    /** Promise 3: "row: 0 to 7". */
    private static void setRows() {
        DUE.promise("promise 3, row");
        BlockRanks x = new BlockRanks();
        for (int row = 0; row < 8; row++) {
            DUE.is("row " + row, x.set(1, row, 2, row + 1), 0);
        }
        for (int row : Due.outside(8)) {
            DUE.is("row " + row, x.set(1, row, 2, 50), BlockRanks.UNKNOWN);
        }
        DUE.cells("rows", x, 1, new int[][] {{0, 0, 1}, {0, 0, 2}, {0, 0, 3}, {0, 0, 4}, {0, 0, 5}, {0, 0, 6}, {0, 0, 7},
            {0, 0, 8}});
    }

    /** Promise 3: "column: 0 to 7". */
    private static void setColumns() {
        DUE.promise("promise 3, column");
        BlockRanks x = new BlockRanks();
        for (int column = 0; column < 8; column++) {
            DUE.is("column " + column, x.set(1, 2, column, column + 1), 0);
        }
        for (int column : Due.outside(8)) {
            DUE.is("column " + column, x.set(1, 2, column, 50), BlockRanks.UNKNOWN);
        }
        DUE.cells("columns", x, 1, new int[][] {{}, {}, {1, 2, 3, 4, 5, 6, 7, 8}});
    }

    /** Promise 3: "value: 0 to p - 1". */
    private static void setValues() {
        DUE.promise("promise 3, value");
        for (int prime : new int[] {2, 3, 101, 251}) {
            BlockRanks x = new BlockRanks();
            x.setPrime(prime);
            DUE.is("p - 1", x.set(2, 7, 0, prime - 1), 0);
            DUE.is("0", x.set(2, 7, 0, 0), prime - 1);
            for (int value : Due.outside(prime)) {
                DUE.is("value " + value, x.set(2, 7, 0, value), BlockRanks.BAD_VALUE);
            }
            DUE.is("the cell", x.cell(2, 7, 0), 0);
        }
    }

    /** Promise 3: "Sets a cell." No other one, and no tree. */
    private static void setACellAlone() {
        DUE.promise("promise 3, a cell alone");
        for (int corner = 0; corner < 4; corner++) {
            BlockRanks x = new BlockRanks();
            x.split(2, 0);
            x.set(2, corner / 2 * 7, corner % 2 * 7, 100);
            for (int i = 0; i < 256; i++) {
                boolean isTheCell = i / 64 == 2 && i / 8 % 8 == corner / 2 * 7 && i % 8 == corner % 2 * 7;
                DUE.is("cell " + i, x.cell(i / 64, i / 8 % 8, i % 8), isTheCell ? 100 : 0);
            }
            DUE.is("leaves", x.count(2), 7);
        }
    }

    /** Promise 3: "Returns the previous value". 0 and p - 1 too. */
    private static void setReturnsThePreviousValue() {
        DUE.promise("promise 3, the previous value");
        BlockRanks x = new BlockRanks();
        DUE.is("from 0", x.set(0, 7, 7, 100), 0);
        DUE.is("from p - 1", x.set(0, 7, 7, 1), 100);
        DUE.is("from 1", x.set(0, 7, 7, 0), 1);
        DUE.is("from 0 again", x.set(0, 7, 7, 2), 0);
    }

    /** Promise 3: "NONE if it is so already". 0 in a new table, and p - 1. */
    private static void setIsSoAlready() {
        DUE.promise("promise 3, it is so already");
        BlockRanks x = new BlockRanks();
        DUE.is("0 at first", x.set(3, 0, 7, 0), BlockRanks.NONE);
        x.set(3, 0, 7, 100);
        DUE.is("100 again", x.set(3, 0, 7, 100), BlockRanks.NONE);
        DUE.is("another cell", x.set(3, 7, 0, 100), 0);
        x.setPrime(5);
        DUE.is("100 modulo 5", x.set(3, 0, 7, 0), BlockRanks.NONE);
    }

    // ---- promise 4

    /** Promise 4: "table: 0 to 3". */
    private static void addProductToTables() {
        DUE.promise("promise 4, table");
        BlockRanks x = new BlockRanks();
        Due.write(x, "0,0,0,0,0,0,0,1;0,0,0,0,0,0,0,2");
        for (int table = 0; table < 4; table++) {
            DUE.is("table " + table, x.addProduct(table, 0), 1);
            DUE.is("the table that is changed", x.cell(table, 7, 7), 2);
            DUE.is("the next one", x.cell((table + 1) % 4, 7, 7), table == 3 ? 2 : 0);
        }
        for (int table : Due.outside(4)) {
            DUE.is("table " + table, x.addProduct(table, 0), BlockRanks.UNKNOWN);
        }
    }

    /** Promise 4: "leaf: a leaf". The first, the last and the next one, of 1, 4 and 64 leaves. */
    private static void addProductToLeaves() {
        DUE.promise("promise 4, leaf");
        String[] texts = {"0,0,0,0,0,0,0,1;0,0,0,0,0,0,0,2", "0,0,0,1;0,0,0,2", "1;2"};
        int[] sizes = {8, 4, 1};
        for (int kind = 0; kind < 3; kind++) {
            BlockRanks x = new BlockRanks();
            if (kind == 1) {
                x.split(1, 0);
            } else if (kind == 2) {
                Due.splitAll(x, 1);
            }
            int leaves = x.table(1, 3);
            Due.write(x, texts[kind]);
            for (int leaf : Due.outside(leaves)) {
                DUE.is("leaf " + leaf + " of " + leaves, x.addProduct(1, leaf), BlockRanks.UNKNOWN);
            }
            DUE.is("no cell is changed", x.table(1, 8), 0);
            DUE.is("the last leaf", x.addProduct(1, leaves - 1), 1);
            DUE.is("its last cell", x.cell(1, 7, 7), 2);
            DUE.is("the first leaf", x.addProduct(1, 0), 1);
            DUE.is("its last cell", x.cell(1, sizes[kind] - 1, sizes[kind] - 1), leaves == 1 ? 4 : 2);
        }
    }

    /** Promise 4: "a row of as many numbers as the size of the leaf". One less and one more are faults. */
    private static void addProductOfAsManyNumbers() {
        DUE.promise("promise 4, as many numbers as the size");
        int[][] leaves = {{2, 0, 1}, {2, 4, 2}, {2, 7, 4}, {3, 0, 8}};
        for (int[] leaf : leaves) {
            int size = leaf[2];
            for (int first = Math.max(1, size - 1); first <= size + 1; first++) {
                for (int second = Math.max(1, size - 1); second <= size + 1; second++) {
                    String text = ones(first) + ";" + ones(second);
                    int want = 1;
                    if (first != size) {
                        want = -100 - (2 * Math.min(first, size) - 1);
                    } else if (second != size) {
                        want = -100 - (2 * size + 2 * Math.min(second, size) - 1);
                    }
                    BlockRanks x = leavesOfAllSizes();
                    Due.write(x, text);
                    DUE.is(text + " for the size " + size, x.addProduct(leaf[0], leaf[1]), want);
                }
            }
        }
    }

    private static BlockRanks leavesOfAllSizes() {
        BlockRanks x = new BlockRanks();
        x.split(2, 0);
        x.split(2, 0);
        x.split(2, 0);
        return x;
    }

    private static String ones(int count) {
        return "1" + ",1".repeat(count - 1);
    }

    /**
     * Promise 4: "the cell of the row i and the column j of the leaf becomes greater by the i-th number of the first
     * row * the j-th number of the second one." No cell beside the leaf becomes another one.
     */
    private static void addProductAddsInTheLeafAlone() {
        DUE.promise("promise 4, the cells of the leaf");
        BlockRanks x = new BlockRanks();
        x.split(0, 0);
        x.split(0, 3);
        x.split(0, 6);
        // The leaves are three of the size 4, three of the size 2 from 4, 4 on, and four of the size 1 from 6, 6 on.
        x.keep();
        Due.write(x, "2,3;5,7");
        x.addProduct(0, 4);
        DUE.cells("the size 2", x, 0, new int[][] {{}, {}, {}, {}, {0, 0, 0, 0, 0, 0, 10, 14}, {0, 0, 0, 0, 0, 0, 15, 21}});
        x.restore();
        Due.write(x, "3;5");
        x.addProduct(0, 6);
        DUE.cells("the size 1", x, 0, new int[][] {{}, {}, {}, {}, {}, {}, {0, 0, 0, 0, 0, 0, 15}});
        x.restore();
        Due.write(x, "0,1,0,2;1,2,3,4");
        x.addProduct(0, 1);
        DUE.cells("the size 4", x, 0, new int[][] {{}, {0, 0, 0, 0, 1, 2, 3, 4}, {}, {0, 0, 0, 0, 2, 4, 6, 8}});
    }

    /** Promise 4, TABLES: "All sums and products are modulo p". A cell of p - 1 wraps around. */
    private static void addProductWrapsAround() {
        DUE.promise("promise 4, modulo p");
        for (int prime : new int[] {2, 3, 101, 251}) {
            BlockRanks x = new BlockRanks();
            x.setPrime(prime);
            Due.splitAll(x, 0);
            x.set(0, 7, 7, prime - 1);
            Due.write(x, "1;1");
            DUE.is("p - 1 and 1", x.addProduct(0, 63), 0);
            DUE.is("it is 0", x.cell(0, 7, 7), 0);
            x.set(0, 7, 7, prime - 1);
            Due.write(x, (prime - 1) + ";" + (prime - 1));
            DUE.is("p - 1 and 1 again", x.addProduct(0, 63), 0);
            DUE.is("1 then", x.addProduct(0, 63), 1);
            DUE.is("it is 1", x.cell(0, 7, 7), 1);
        }
    }

    /** Promise 4: "Returns the rank of the leaf then". 0 and the full rank too. */
    private static void addProductReturnsTheRank() {
        DUE.promise("promise 4, the rank then");
        BlockRanks x = new BlockRanks();
        Due.write(x, "0,0,0,0,0,0,0,0;0,0,0,0,0,0,0,0");
        DUE.is("nothing", x.addProduct(0, 0), 0);
        for (int i = 0; i < 8; i++) {
            String unit = "0,".repeat(i) + "1" + ",0".repeat(7 - i);
            Due.write(x, unit + ";" + unit);
            DUE.is("a number more", x.addProduct(0, 0), i + 1);
        }
        BlockRanks y = new BlockRanks();
        Due.fillDiagonal(y, 0);
        y.split(0, 0);
        Due.write(y, "0,0,0,0;1,1,1,1");
        DUE.is("a leaf, not the table", y.addProduct(0, 3), 4);
        DUE.is("a leaf of zeros beside it", y.addProduct(0, 1), 0);
    }

    /** Promise 4: "-100 minus the fault of the text if it has one (which is an error)". Also at the first place. */
    private static void addProductWithAFault() {
        DUE.promise("promise 4, the fault");
        String[] texts = {"", "x", "1", "1,", "1,2", "1,2;", "1,2;3", "1,2;3,", "1,2;3,4,", "1,2,", "1;", "1,2;3;"};
        int[] faults = {0, 0, 1, 2, 3, 4, 5, 6, 7, 3, 1, 5};
        for (int i = 0; i < texts.length; i++) {
            BlockRanks x = new BlockRanks();
            x.split(0, 0);
            x.split(0, 0);
            Due.write(x, texts[i]);
            DUE.is("with '" + texts[i] + "'", x.addProduct(0, 0), -100 - faults[i]);
        }
    }

    /** Promise 4: "BAD_VALUE if a number is not less than p". Each of the numbers: p - 1, p and p + 1. */
    private static void addProductWithNumbersNotLessThanThePrime() {
        DUE.promise("promise 4, a number not less than p");
        for (int prime : new int[] {2, 101, 251}) {
            for (int place = 0; place < 4; place++) {
                for (int number = prime - 1; number <= prime + 1; number++) {
                    BlockRanks x = new BlockRanks();
                    x.setPrime(prime);
                    x.split(0, 0);
                    x.split(0, 0);
                    Due.write(x, onesBut(place, number));
                    int want = number < prime ? 1 : BlockRanks.BAD_VALUE;
                    DUE.is("the number " + number + " at " + place, x.addProduct(0, 0), want);
                }
            }
        }
    }

    /** Two rows of two numbers, all of them 1 but the one at the place. */
    private static String onesBut(int place, int number) {
        StringBuilder text = new StringBuilder();
        for (int i = 0; i < 4; i++) {
            text.append(i == place ? number : 1).append(i == 3 ? "" : i == 1 ? ";" : ",");
        }
        return text.toString();
    }

    /** Promise 4: "Adds to a leaf the product of the two rows of the text, which stays". */
    private static void addProductLeavesTheText() {
        DUE.promise("promise 4, the text stays");
        BlockRanks x = new BlockRanks();
        Due.splitAll(x, 0);
        Due.write(x, "2;3");
        x.addProduct(0, 0);
        DUE.is("count(4)", x.count(4), 3);
        x.addProduct(0, 0);
        DUE.is("twice", x.cell(0, 0, 0), 12);
        x.type('1');
        x.addProduct(0, 0);
        DUE.is("a sign more", x.cell(0, 0, 0), 12 + 62);
    }

    // ---- promise 5

    /** Promise 5: "Returns the number of the table that is changed". The letters A to D are the tables 0 to 3. */
    private static void workOnEachTable() {
        DUE.promise("promise 5, the table that is changed");
        for (int target = 0; target < 4; target++) {
            for (int source = 0; source < 4; source++) {
                BlockRanks x = new BlockRanks();
                for (int table = 0; table < 4; table++) {
                    x.set(table, 7, 0, 10 + table);
                }
                Due.write(x, (char) ('A' + target) + "=" + (char) ('A' + source));
                DUE.is("work()", x.work(), target);
                for (int table = 0; table < 4; table++) {
                    DUE.is("cell", x.cell(table, 7, 0), 10 + (table == target ? source : table));
                }
            }
        }
    }

    /**
     * Promise 5, TEXTS: "(the table whose cells are changed; its tree stays)". The trees of the other tables
     * are other ones.
     */
    private static void workLeavesTrees() {
        DUE.promise("promise 5, its tree stays");
        for (String formula : new String[] {"A=B", "A=B'", "A=A'", "A=B+C", "A=B-C", "A=B*C"}) {
            BlockRanks x = new BlockRanks();
            x.split(0, 0);
            x.split(0, 3);
            Due.splitAll(x, 1);
            Due.write(x, formula);
            DUE.is(formula, x.work(), 0);
            DUE.is("leaves of A", x.table(0, 3), 7);
            DUE.is("the last leaf's size", x.leaf(0, 6, 2), 2);
            DUE.is("leaves of B", x.table(1, 3), 64);
            DUE.is("leaves of C", x.table(2, 3), 1);
        }
    }

    /** Promise 5: "Works out the formula of the text, which stays." Each operation, in cells at the corners. */
    private static void workOutEachOperation() {
        DUE.promise("promise 5, each operation");
        String[] formulas = {"C=A", "C=A+B", "C=A-B", "C=A*B", "C=A'"};
        // The cells 0,0 and 0,7 and 7,0 and 7,7 of the result.
        int[][] cells = {{2, 3, 5, 7}, {13, 16, 22, 26}, {92, 91, 89, 89}, {73, 83, 73, 97}, {2, 5, 3, 7}};
        for (int i = 0; i < formulas.length; i++) {
            BlockRanks x = corners();
            Due.write(x, formulas[i]);
            DUE.is(formulas[i], x.work(), 2);
            for (int corner = 0; corner < 4; corner++) {
                DUE.is(formulas[i] + ", corner " + corner, x.cell(2, corner / 2 * 7, corner % 2 * 7), cells[i][corner]);
            }
            DUE.is("no other cell", x.table(2, 8), 4);
        }
    }

    private static BlockRanks corners() {
        BlockRanks x = new BlockRanks();
        int[] first = {2, 3, 5, 7};
        int[] second = {11, 13, 17, 19};
        for (int corner = 0; corner < 4; corner++) {
            x.set(0, corner / 2 * 7, corner % 2 * 7, first[corner]);
            x.set(1, corner / 2 * 7, corner % 2 * 7, second[corner]);
        }
        return x;
    }

    /** Promise 5, TEXTS: "All letters are of tables as they are before the formula." */
    private static void workReadsTablesAsTheyAreBefore() {
        DUE.promise("promise 5, tables as they are before");
        String[] formulas = {"A=A'", "A=A*A", "A=A*B", "A=B*A", "A=A+A", "A=A-A", "A=B-A", "A=A+B"};
        for (String formula : formulas) {
            BlockRanks own = full();
            BlockRanks other = full();
            Due.write(own, formula);
            Due.write(other, "D" + formula.substring(1));
            DUE.is(formula, own.work(), 0);
            DUE.is("D" + formula.substring(1), other.work(), 3);
            for (int i = 0; i < 64; i++) {
                DUE.is(formula + ", cell " + i, own.cell(0, i / 8, i % 8), other.cell(3, i / 8, i % 8));
            }
        }
        BlockRanks x = corners();
        Due.write(x, "A=A*A");
        x.work();
        DUE.is("2 * 2 + 3 * 5", x.cell(0, 0, 0), 19);
        DUE.is("2 * 3 + 3 * 7", x.cell(0, 0, 7), 27);
        DUE.is("5 * 2 + 7 * 5", x.cell(0, 7, 0), 45);
        DUE.is("5 * 3 + 7 * 7", x.cell(0, 7, 7), 64);
    }

    /** Two tables in which all cells are different ones or nearly so: 128 calls. */
    private static BlockRanks full() {
        BlockRanks x = new BlockRanks();
        for (int i = 0; i < 64; i++) {
            x.set(0, i / 8, i % 8, i + 1);
            x.set(1, i / 8, i % 8, (3 * i + 7) % 101);
        }
        return x;
    }

    /** Promise 5: "-100 minus the fault of the text if it has one (which is an error)". */
    private static void workWithAFault() {
        DUE.promise("promise 5, the fault");
        String[] texts = {"", "A", "A=", "A=B+", "A=B-", "A=B*", "E", "A-", "A=E", "A=B/", "A=B+E", "A=B'+", "A=B+C+", "A=B+C'"};
        int[] faults = {0, 1, 2, 4, 4, 4, 0, 1, 2, 3, 4, 4, 5, 5};
        for (int i = 0; i < texts.length; i++) {
            BlockRanks x = new BlockRanks();
            Due.write(x, texts[i]);
            DUE.is("with '" + texts[i] + "'", x.work(), -100 - faults[i]);
        }
    }

    /** Promise 5: "Works out the formula of the text, which stays." The text can be worked out once more. */
    private static void workLeavesTheText() {
        DUE.promise("promise 5, the text stays");
        BlockRanks x = new BlockRanks();
        x.set(0, 0, 0, 1);
        Due.write(x, "A=A");
        x.work();
        DUE.is("count(4)", x.count(4), 3);
        x.type('+');
        x.type('A');
        x.work();
        x.work();
        DUE.is("twice and twice again", x.cell(0, 0, 0), 4);
    }

    // ---- promise 6

    /** Promise 6: "table: 0 to 3". */
    private static void factorTables() {
        DUE.promise("promise 6, table");
        for (int table = 0; table < 4; table++) {
            BlockRanks x = new BlockRanks();
            Due.fillDiagonal(x, table);
            x.set(table, 7, 7, 5);
            DUE.is("table " + table, x.factor(table, (table + 1) % 4, (table + 2) % 4), 5);
            DUE.is("its second factor", x.cell((table + 2) % 4, 7, 7), 5);
            for (int wrong : Due.outside(4)) {
                DUE.is("table " + wrong, x.factor(wrong, 0, 1), BlockRanks.UNKNOWN);
            }
        }
    }

    /** Promise 6: "lower: 0 to 3: the table that becomes the first factor (perhaps the table itself)". */
    private static void factorLowerTables() {
        DUE.promise("promise 6, lower");
        for (int table = 0; table < 4; table++) {
            for (int lower = 0; lower < 4; lower++) {
                BlockRanks x = vandermonde(table);
                int upper = lower == 3 ? 0 : lower + 1;
                DUE.is("factor", x.factor(table, lower, upper), POWERS_DETERMINANT);
                for (int i = 0; i < 64; i++) {
                    // The first factor of this table: Newton's basis, so the binomial coefficients.
                    DUE.is("lower " + lower + " of " + table + ", cell " + i, x.cell(lower, i / 8, i % 8), binomial(i / 8, i % 8));
                }
            }
        }
        BlockRanks x = vandermonde(0);
        for (int wrong : Due.outside(4)) {
            DUE.is("lower " + wrong, x.factor(0, wrong, 1), BlockRanks.UNKNOWN);
        }
    }

    /** Promise 6: "upper: 0 to 3: the table that becomes the second factor (perhaps the table itself)". */
    private static void factorUpperTables() {
        DUE.promise("promise 6, upper");
        for (int table = 0; table < 4; table++) {
            for (int upper = 0; upper < 4; upper++) {
                BlockRanks x = vandermonde(table);
                int lower = upper == 3 ? 0 : upper + 1;
                DUE.is("factor", x.factor(table, lower, upper), POWERS_DETERMINANT);
                int factorial = 1;
                for (int i = 0; i < 8; i++) {
                    factorial = i == 0 ? 1 : factorial * i % 251;
                    DUE.is("upper " + upper + " of " + table + ", diagonal " + i, x.cell(upper, i, i), factorial);
                    for (int j = 0; j < i; j++) {
                        DUE.is("below the diagonal", x.cell(upper, i, j), 0);
                    }
                }
                DUE.is("the first row", x.cell(upper, 0, 0), 1);
                DUE.is("the second row's last", x.cell(upper, 1, 7), 1);
            }
        }
        BlockRanks x = vandermonde(0);
        for (int wrong : Due.outside(4)) {
            DUE.is("upper " + wrong, x.factor(0, 1, wrong), BlockRanks.UNKNOWN);
        }
    }

    /** The powers of 0 to 7, a row for each, modulo 251: 57 calls. */
    private static BlockRanks vandermonde(int table) {
        BlockRanks x = new BlockRanks();
        x.setPrime(251);
        for (int row = 0; row < 8; row++) {
            int power = 1;
            for (int column = 0; column < 8; column++) {
                x.set(table, row, column, power);
                power = power * row % 251;
            }
        }
        return x;
    }

    private static int binomial(int n, int k) {
        if (k > n) {
            return 0;
        }
        return k == 0 || k == n ? 1 : binomial(n - 1, k - 1) + binomial(n - 1, k);
    }

    /**
     * Promise 6: "a table with 1 on its diagonal and 0 above it, and one with 0 below its diagonal, whose product
     * it is". Also with numbers at the end of the range, and where the last number of the diagonal is 0.
     */
    private static void factorsMakeTheTable() {
        DUE.promise("promise 6, whose product it is");
        for (int kind = 0; kind < 2; kind++) {
            BlockRanks x = vandermonde(0);
            x.set(0, 0, 7, 250);
            if (kind == 1) {
                makeSingular(x);
            }
            DUE.holds("factor", x.factor(0, 1, 2) == 0 == (kind == 1));
            Due.write(x, "D=B*C");
            x.work();
            DUE.is("differ(0, 3)", x.differ(0, 3), 0);
            for (int i = 0; i < 8; i++) {
                DUE.is("1 on the diagonal", x.cell(1, i, i), 1);
                for (int j = 0; j < i; j++) {
                    DUE.is("0 above the diagonal", x.cell(1, j, i), 0);
                    DUE.is("0 below the diagonal", x.cell(2, i, j), 0);
                }
            }
        }
    }

    /** Changes the last number so that the last number of the diagonal becomes 0. */
    private static void makeSingular(BlockRanks x) {
        x.factor(0, 1, 2);
        x.set(0, 7, 7, (x.cell(0, 7, 7) + 251 - x.cell(2, 7, 7)) % 251);
    }

    /** Promise 6: "Returns the product of the diagonal of the second factor". Modulo p, and 0 at the last. */
    private static void factorReturnsTheProductOfTheDiagonal() {
        DUE.promise("promise 6, the product of the diagonal");
        BlockRanks x = new BlockRanks();
        for (int i = 0; i < 8; i++) {
            x.set(0, i, i, 100);
        }
        DUE.is("eight times -1", x.factor(0, 1, 2), 1);
        x.set(0, 0, 0, 1);
        DUE.is("seven times -1", x.factor(0, 1, 2), 100);
        x.set(0, 7, 7, 0);
        DUE.is("and 0", x.factor(0, 1, 2), 0);
        BlockRanks y = vandermonde(1);
        DUE.is("the powers", y.factor(1, 0, 2), POWERS_DETERMINANT);
        DUE.is("it is the determinant", y.table(1, 1), POWERS_DETERMINANT);
    }

    /** Promise 6: "BAD_VALUE if lower and upper are the same". Also if they are the table itself. */
    private static void factorIntoTheSameTable() {
        DUE.promise("promise 6, lower and upper are the same");
        for (int same = 0; same < 4; same++) {
            BlockRanks x = new BlockRanks();
            Due.fillDiagonal(x, 0);
            DUE.is("both " + same, x.factor(0, same, same), BlockRanks.BAD_VALUE);
        }
    }

    /**
     * Promise 6: "NOT_POSSIBLE if one of the numbers on the diagonal of the second factor, but the last one, would be 0,
     * whatever is below it." With zeros below it there are factors, and yet it is not possible.
     */
    private static void factorWithAZeroOnTheDiagonal() {
        DUE.promise("promise 6, a 0 on the diagonal");
        for (int zero = 0; zero < 7; zero++) {
            BlockRanks x = new BlockRanks();
            Due.fillDiagonal(x, 0);
            x.set(0, zero, zero, 0);
            DUE.is("zeros below the 0 at " + zero, x.factor(0, 1, 2), BlockRanks.NOT_POSSIBLE);
            x.set(0, zero, zero + 1, 4);
            DUE.is("a number beside it", x.factor(0, 1, 2), BlockRanks.NOT_POSSIBLE);
            x.set(0, 7, zero, 3);
            DUE.is("a number below it", x.factor(0, 1, 2), BlockRanks.NOT_POSSIBLE);
            DUE.is("nothing is written", x.table(1, 8) + x.table(2, 8), 0);
        }
        for (int zero = 1; zero < 7; zero++) {
            BlockRanks x = new BlockRanks();
            Due.fillDiagonal(x, 0);
            x.set(0, zero - 1, zero, 2);
            x.set(0, zero, zero - 1, 51);
            DUE.is("1 - 2 * 51 is 0, at " + zero, x.factor(0, 1, 2), BlockRanks.NOT_POSSIBLE);
            x.set(0, zero, zero, 0);
            DUE.is("0 - 2 * 51 is none", x.factor(0, 1, 2), 100);
        }
    }

    /** Promise 6: "but the last one". There a 0 is possible, in the table or as it comes up. */
    private static void factorWithALastZeroOnTheDiagonal() {
        DUE.promise("promise 6, but the last one");
        BlockRanks x = new BlockRanks();
        Due.fillDiagonal(x, 0);
        x.set(0, 7, 7, 0);
        DUE.is("a 0", x.factor(0, 1, 2), 0);
        DUE.is("the first factor's", x.cell(1, 7, 7), 1);
        DUE.is("the second factor's", x.cell(2, 7, 7), 0);
        x.set(0, 6, 7, 2);
        x.set(0, 7, 6, 51);
        x.set(0, 7, 7, 1);
        DUE.is("1 - 2 * 51", x.factor(0, 1, 2), 0);
        DUE.is("the first factor's", x.cell(1, 7, 6), 51);
        DUE.is("the second factor's", x.cell(2, 7, 7), 0);
    }

    /** Promise 6: "Trees stay." */
    private static void factorLeavesTrees() {
        DUE.promise("promise 6, trees stay");
        BlockRanks x = new BlockRanks();
        Due.fillDiagonal(x, 0);
        x.split(0, 0);
        x.split(1, 0);
        x.split(1, 3);
        x.split(2, 0);
        x.split(2, 0);
        x.split(2, 0);
        x.factor(0, 1, 2);
        DUE.is("the table's", x.table(0, 3), 4);
        DUE.is("the first factor's", x.table(1, 3), 7);
        DUE.is("the first factor's last leaf", x.leaf(1, 6, 2), 2);
        DUE.is("the second factor's", x.table(2, 3), 10);
        x.factor(0, 1, 0);
        DUE.is("the table's own", x.table(0, 3), 4);
    }
}
