/** All promises: runs of 512 calls, drawn by a counter and a fixed rule, compared with the Model's answers. */
public final class ModelTest {
    private static final int RUNS = 600;
    private static final int CALLS = 512;
    private static final int[] PRIMES = {2, 3, 5, 7, 101, 251};
    private static final int[] EXTREMES = {Integer.MIN_VALUE, -1, 64, Integer.MAX_VALUE};
    private static final String[] SIGNS = {"0", "5", "12", ",", ";", "A", "=", "'", "+", "999", "\u0141", " "};

    private static final Due DUE = new Due("ModelTest");

    private long seed;
    private BlockRanks x;
    private Model model;
    private int calls;
    private int run;

    public static void main(String[] args) {
        for (int run = 1; run <= RUNS; run++) {
            new ModelTest().goThrough(run);
        }
        DUE.finish();
    }

    private int draw(int end) {
        seed = seed * 6364136223846793005L + 1442695040888963407L;
        return (int) ((seed >>> 33) % end);
    }

    /** A number below the end, or, now and then, another one. */
    private int nearly(int end) {
        int kind = draw(60);
        return kind == 0 ? EXTREMES[draw(EXTREMES.length)] : kind == 1 ? end : draw(end);
    }

    private void due(String call, int got, int want) {
        calls++;
        DUE.is("run " + run + ", call " + calls + ", " + call, got, want);
    }

    private void goThrough(int number) {
        run = number;
        seed = number;
        x = new BlockRanks();
        model = new Model();
        if (draw(4) > 0) {
            setPrime(PRIMES[draw(PRIMES.length)]);
        }
        if (draw(3) == 0) {
            fillTable(draw(4));
        }
        // The dearest step makes some 70 calls.
        while (calls < CALLS - 100) {
            step();
        }
        DUE.promise("promises 1 to 22");
        for (int i = 0; calls < CALLS; i++) {
            due("cell", x.cell(i / 64 % 4, i / 8 % 8, i % 8), model.cell(i / 64 % 4, i / 8 % 8, i % 8));
        }
    }

    private void setPrime(int prime) {
        DUE.promise("promise 2");
        due("setPrime(" + prime + ")", x.setPrime(prime), model.setPrime(prime));
    }

    private void set(int table, int row, int column, int value) {
        DUE.promise("promise 3");
        String call = "set(" + table + ", " + row + ", " + column + ", " + value + ")";
        due(call, x.set(table, row, column, value), model.set(table, row, column, value));
    }

    /** Sums of few products of rows have blocks of low rank; the diagonal makes the rank high. */
    private void fillTable(int table) {
        int products = 1 + draw(3);
        for (int i = 0; i < products; i++) {
            write(drawRow(8) + ";" + drawRow(8));
            DUE.promise("promise 4");
            due("addProduct", x.addProduct(table, 0), model.addProduct(table, 0));
        }
        for (int i = 0; i < 8 && products > 1; i++) {
            set(table, i, i, 1 + draw(Math.max(1, model.count(0) - 1)));
        }
    }

    private String drawRow(int size) {
        StringBuilder row = new StringBuilder();
        for (int i = 0; i < size; i++) {
            row.append(i == 0 ? "" : ",").append(draw(3) == 0 ? 0 : draw(Math.min(model.count(0), size == 8 ? 100 : 251)));
        }
        return row.toString();
    }

    private void write(String text) {
        DUE.promise("promise 11");
        due("clearText()", x.clearText(), model.clearText());
        DUE.promise("promise 10");
        for (int i = 0; i < text.length(); i++) {
            due("type", x.type(text.charAt(i)), model.type(text.charAt(i)));
        }
    }

    /** Leaves a text nearly as it should be. */
    private String spoil(String text) {
        int place = draw(text.length() + 1);
        String sign = SIGNS[draw(SIGNS.length)];
        int rest = draw(2) == 0 ? place : Math.min(text.length(), place + 1);
        return text.substring(0, place) + sign + text.substring(rest);
    }

    private String drawFormula() {
        String formula = letter() + "=" + letter();
        int kind = draw(6);
        return kind == 0 ? formula : kind == 1 ? formula + "'" : formula + "+-**".charAt(kind - 2) + letter();
    }

    private String letter() {
        return String.valueOf((char) ('A' + draw(4)));
    }

    private void step() {
        int kind = draw(24);
        if (kind < 8) {
            changeByText(kind);
        } else if (kind < 17) {
            change(kind);
        } else {
            tell();
        }
    }

    private void changeByText(int kind) {
        int table = nearly(4);
        int leaf = nearly(Math.max(1, model.table(table, 3)));
        if (kind < 3) {
            int size = Math.max(1, model.leaf(table, leaf, 2));
            String text = drawRow(size) + ";" + drawRow(size);
            write(draw(6) == 0 ? spoil(text) : text);
            DUE.promise("promise 4");
            due("addProduct(" + table + ", " + leaf + ")", x.addProduct(table, leaf), model.addProduct(table, leaf));
        } else if (kind < 6) {
            String text = drawFormula();
            write(draw(6) == 0 ? spoil(text) : text);
            DUE.promise("promise 5");
            due("work()", x.work(), model.work());
        } else {
            String text = drawRow(8);
            write(draw(6) == 0 ? spoil(text) : text);
            for (int i = 0; i < 3; i++) {
                int place = nearly(8);
                DUE.promise("promise 20");
                due("times(" + table + ", " + place + ")", x.times(table, place), model.times(table, place));
                DUE.promise("promise 21");
                due("solve(" + table + ", " + place + ")", x.solve(table, place), model.solve(table, place));
            }
        }
    }

    private void change(int kind) {
        int table = nearly(4);
        int leaf = nearly(Math.max(1, model.table(table, 3)));
        if (kind < 10) {
            set(table, nearly(8), nearly(8), draw(3) == 0 ? 0 : nearly(model.count(0)));
        } else if (kind == 10) {
            int lower = nearly(4);
            int upper = nearly(4);
            DUE.promise("promise 6");
            String call = "factor(" + table + ", " + lower + ", " + upper + ")";
            due(call, x.factor(table, lower, upper), model.factor(table, lower, upper));
        } else if (kind == 11) {
            DUE.promise("promise 7");
            due("split(" + table + ", " + leaf + ")", x.split(table, leaf), model.split(table, leaf));
        } else if (kind == 12) {
            DUE.promise("promise 8");
            due("join(" + table + ", " + leaf + ")", x.join(table, leaf), model.join(table, leaf));
        } else if (kind == 13) {
            DUE.promise("promise 9");
            due("recompress(" + table + ")", x.recompress(table), model.recompress(table));
        } else if (kind == 14) {
            DUE.promise("promise 12");
            due("undo()", x.undo(), model.undo());
        } else if (kind == 15) {
            changeSnapshot();
        } else {
            setPrime(draw(3) == 0 ? nearly(300) : PRIMES[draw(PRIMES.length)]);
        }
    }

    private void changeSnapshot() {
        if (draw(2) == 0) {
            DUE.promise("promise 13");
            due("keep()", x.keep(), model.keep());
        } else {
            DUE.promise("promise 14");
            due("restore()", x.restore(), model.restore());
        }
    }

    private void tell() {
        int table = nearly(4);
        int leaf = nearly(Math.max(1, model.table(table, 3)));
        int row = nearly(8);
        int column = nearly(8);
        int other = nearly(4);
        int what = nearly(9);
        int number = nearly(5);
        DUE.promise("promise 15");
        due("cell(" + table + ", " + row + ", " + column + ")", x.cell(table, row, column), model.cell(table, row, column));
        DUE.promise("promise 16");
        due("table(" + table + ", " + what + ")", x.table(table, what), model.table(table, what));
        DUE.promise("promise 17");
        what = nearly(6);
        due("leaf(" + table + ", " + leaf + ", " + what + ")", x.leaf(table, leaf, what), model.leaf(table, leaf, what));
        DUE.promise("promise 18");
        due("leafAt(" + table + ", " + row + ", " + column + ")", x.leafAt(table, row, column),
            model.leafAt(table, row, column));
        DUE.promise("promise 19");
        due("differ(" + table + ", " + other + ")", x.differ(table, other), model.differ(table, other));
        DUE.promise("promise 22");
        due("count(" + number + ")", x.count(number), model.count(number));
    }
}
