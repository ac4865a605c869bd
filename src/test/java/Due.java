/** Compares answers with those that are due, and tells what differs. */
final class Due {
    private final String test;
    private String promise = "";
    private int right;
    private int wrong;

    Due(String test) {
        this.test = test;
    }

    /** Names the promise that the next answers belong to. */
    void promise(String name) {
        promise = name;
    }

    void is(String call, long got, long want) {
        if (got == want) {
            right++;
        } else {
            wrong++;
            System.out.println(test + ", " + promise + ": " + call + " answered " + got + ", due is " + want);
        }
    }

    void holds(String what, boolean isSo) {
        is(what, isSo ? 1 : 0, 1);
    }

    /** Numbers below 0, from the end on, and those at the ends of int. */
    static int[] outside(int end) {
        return new int[] {Integer.MIN_VALUE, Integer.MIN_VALUE + 1, -65536, -2, -1, end, end + 1, 2 * end, 65536,
            Integer.MAX_VALUE - 1, Integer.MAX_VALUE};
    }

    /** Puts a text in place of the one that is there. */
    static void write(BlockRanks x, String text) {
        x.clearText();
        for (int i = 0; i < text.length(); i++) {
            x.type(text.charAt(i));
        }
    }

    /** Sets cells of a table, row by row from the upper left corner. */
    static void fill(BlockRanks x, int table, int[][] rows) {
        for (int row = 0; row < rows.length; row++) {
            for (int column = 0; column < rows[row].length; column++) {
                x.set(table, row, column, rows[row][column]);
            }
        }
    }

    /** Splits a table into 64 leaves of the size 1: 21 calls. */
    static void splitAll(BlockRanks x, int table) {
        int leaf = 0;
        for (int size : new int[] {8, 4, 2, 2, 2, 2, 4, 2, 2, 2, 2, 4, 2, 2, 2, 2, 4, 2, 2, 2, 2}) {
            x.split(table, leaf);
            leaf += size == 2 ? 4 : 0;
        }
    }

    /** Makes a table one with 1 on its diagonal. */
    static void fillDiagonal(BlockRanks x, int table) {
        for (int i = 0; i < 8; i++) {
            x.set(table, i, i, 1);
        }
    }

    /** Compares all cells of a table, of which those that are not given have to be 0. */
    void cells(String call, BlockRanks x, int table, int[][] rows) {
        for (int row = 0; row < 8; row++) {
            for (int column = 0; column < 8; column++) {
                boolean given = row < rows.length && column < rows[row].length;
                String cell = call + ", then cell(" + table + ", " + row + ", " + column + ")";
                is(cell, x.cell(table, row, column), given ? rows[row][column] : 0);
            }
        }
    }

    void finish() {
        System.out.println(test + ": " + right + " answers as due, " + wrong + " not");
        if (wrong != 0 || right == 0) {
            System.exit(1);
        }
    }
}
