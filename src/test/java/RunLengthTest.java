/**
 * The last sentence under "What it is": runs of exactly 512 calls, to the last of which all is as it was at first.
 * The first remark of a test names the promise and the sentence; SentencesTest compares it with the document.
 */
public final class RunLengthTest {
    private static final int CALLS = 512;

    private static final Due DUE = new Due("RunLengthTest");

    public static void main(String[] args) {
        primes();
        cells();
        products();
        formulas();
        factors();
        splitsAndJoins();
        leastTrees();
        characters();
        undone();
        restored();
        refusals();
        told();
        DUE.finish();
    }

    /** Promise 2, WHAT IT IS: "An object is used for at most 512 calls after it has been made". */
    private static void primes() {
        DUE.promise("promise 2, 512 calls");
        BlockRanks x = new BlockRanks();
        int[] primes = {251, 2, 101};
        for (int i = 0; i < CALLS; i++) {
            DUE.is("call " + i, x.setPrime(primes[i % 3]), primes[(i + 2) % 3]);
        }
    }

    /** Promise 3, WHAT IT IS: "An object is used for at most 512 calls after it has been made". */
    private static void cells() {
        DUE.promise("promise 3, 512 calls");
        BlockRanks x = new BlockRanks();
        for (int i = 0; i < CALLS; i++) {
            // Each cell of all tables, and then each of them once more.
            int want = i < 256 ? 0 : i % 256 % 100 + 1;
            int value = i < 256 ? i % 100 + 1 : 0;
            DUE.is("call " + i, x.set(i / 64 % 4, i / 8 % 8, i % 8, value), want);
        }
    }

    /** Promise 4, WHAT IT IS: "An object is used for at most 512 calls after it has been made". */
    private static void products() {
        DUE.promise("promise 4, 512 calls");
        BlockRanks x = new BlockRanks();
        Due.write(x, "0,0,0,0,0,0,0,1;0,0,0,0,0,0,0,1");
        // 32 calls, 479 products, and the cell.
        for (int i = 1; i <= CALLS - 33; i++) {
            DUE.is("product " + i, x.addProduct(3, 0), i % 101 == 0 ? 0 : 1);
        }
        DUE.is("the last call", x.cell(3, 7, 7), (CALLS - 33) % 101);
    }

    /** Promise 5, WHAT IT IS: "An object is used for at most 512 calls after it has been made". */
    private static void formulas() {
        DUE.promise("promise 5, 512 calls");
        BlockRanks x = new BlockRanks();
        x.set(0, 7, 0, 1);
        Due.write(x, "A=A+A");
        int power = 1;
        // 7 calls, 504 formulas, and the cell.
        for (int i = 1; i <= CALLS - 8; i++) {
            power = power * 2 % 101;
            DUE.is("formula " + i, x.work(), 0);
        }
        DUE.is("the last call", x.cell(0, 7, 0), power);
    }

    /** Promise 6, WHAT IT IS: "An object is used for at most 512 calls after it has been made". */
    private static void factors() {
        DUE.promise("promise 6, 512 calls");
        BlockRanks x = new BlockRanks();
        Due.fillDiagonal(x, 0);
        x.set(0, 0, 0, 2);
        x.set(0, 1, 0, 4);
        // 10 calls, 501 factors, each with the upper one of the last one, and the cell.
        for (int i = 0; i < CALLS - 11; i++) {
            DUE.is("factor " + i, x.factor(i % 3, 3, (i + 1) % 3), 2);
        }
        DUE.is("the last call", x.cell((CALLS - 11) % 3, 0, 0), 2);
    }

    /** Promise 8, WHAT IT IS: "An object is used for at most 512 calls after it has been made". */
    private static void splitsAndJoins() {
        DUE.promise("promise 8, 512 calls");
        BlockRanks x = new BlockRanks();
        for (int round = 0; round < 3; round++) {
            // 84 splits of four tables, and 84 joins.
            for (int table = 0; table < 4; table++) {
                Due.splitAll(x, table);
            }
            for (int table = 0; table < 4; table++) {
                for (int i = 0; i < 16; i++) {
                    DUE.is("join of the size 1", x.join(table, i), i);
                }
                for (int i = 0; i < 4; i++) {
                    DUE.is("join of the size 2", x.join(table, i), i);
                }
                DUE.is("join of the size 4", x.join(table, 0), 0);
            }
        }
        // Eight more calls.
        for (int table = 0; table < 4; table++) {
            DUE.is("split in the end", x.split(table, 0), 4);
        }
        for (int table = 0; table < 4; table++) {
            DUE.is("leaves in the end", x.table(table, 3), 4);
        }
    }

    /** Promise 9, WHAT IT IS: "An object is used for at most 512 calls after it has been made". */
    private static void leastTrees() {
        DUE.promise("promise 9, 512 calls");
        BlockRanks x = new BlockRanks();
        for (int i = 0; i < CALLS / 2; i++) {
            int step = i % 128;
            x.set(3, step / 2 / 8, step / 2 % 8, 1 - step % 2);
            DUE.is("recompress " + i, x.recompress(3), 1 - step % 2);
        }
    }

    /** Promise 10, WHAT IT IS: "An object is used for at most 512 calls after it has been made". */
    private static void characters() {
        DUE.promise("promise 10, 512 calls");
        BlockRanks x = new BlockRanks();
        for (int i = 1; i <= CALLS - 62; i++) {
            DUE.is("type " + i, x.type('1'), i <= 60 ? i : BlockRanks.FULL);
        }
        DUE.is("clearText()", x.clearText(), 60);
        for (int i = 1; i <= 60; i++) {
            DUE.is("type again", x.type('A'), i);
        }
        DUE.is("the last call", x.type('A'), BlockRanks.FULL);
    }

    /** Promise 12, WHAT IT IS: "An object is used for at most 512 calls after it has been made". */
    private static void undone() {
        DUE.promise("promise 12, 512 calls");
        BlockRanks x = new BlockRanks();
        int acts = CALLS - 6;
        for (int i = 1; i <= acts; i++) {
            x.set(0, 0, 0, i % 101);
        }
        for (int left = 3; left >= 0; left--) {
            DUE.is("undo()", x.undo(), left);
        }
        DUE.is("undo()", x.undo(), BlockRanks.NONE);
        DUE.is("the last call", x.cell(0, 0, 0), (acts - 4) % 101);
        BlockRanks y = new BlockRanks();
        for (int i = 0; i < CALLS; i++) {
            DUE.is("call " + i, i % 2 == 0 ? y.split(0, 0) : y.undo(), i % 2 == 0 ? 4 : 0);
        }
    }

    /** Promise 14, WHAT IT IS: "An object is used for at most 512 calls after it has been made". */
    private static void restored() {
        DUE.promise("promise 14, 512 calls");
        BlockRanks x = new BlockRanks();
        for (int i = 0; i < CALLS; i++) {
            DUE.is("call " + i, i % 2 == 0 ? x.keep() : x.restore(), 101);
        }
    }

    /** Promise 22, WHAT IT IS: "An object is used for at most 512 calls after it has been made". Refused ones too. */
    private static void refusals() {
        DUE.promise("promise 22, 512 calls");
        BlockRanks x = new BlockRanks();
        int[] wants = {BlockRanks.BAD_VALUE, BlockRanks.NOT_POSSIBLE, -100, BlockRanks.NONE, BlockRanks.UNKNOWN};
        for (int i = 0; i < CALLS - 1; i++) {
            int[] answers = new int[5];
            int kind = i % 5;
            answers[kind] = kind == 0 ? x.setPrime(4) : kind == 1 ? x.join(0, 0) : kind == 2 ? x.work()
                : kind == 3 ? x.undo() : x.cell(4, 0, 0);
            DUE.is("call " + i, answers[kind], wants[kind]);
        }
        DUE.is("the last call", x.count(3), 0);
    }

    /** Promise 16, WHAT IT IS: "An object is used for at most 512 calls after it has been made". The dearest one. */
    private static void told() {
        DUE.promise("promise 16, 512 calls");
        BlockRanks x = new BlockRanks();
        for (int row = 0; row < 8; row++) {
            int power = 1;
            for (int column = 0; column < 8; column++) {
                x.set(0, row, column, power);
                power = power * (row + 1) % 101;
            }
        }
        for (int i = 64; i < CALLS; i++) {
            DUE.is("call " + i, i % 2 == 0 ? x.table(0, 5) : x.count(1), 64);
        }
    }
}
