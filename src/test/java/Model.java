import java.util.ArrayList;
import java.util.Arrays;
import java.util.List;
import java.util.regex.Matcher;
import java.util.regex.Pattern;

/**
 * The document once more, by other ways than those of BlockRanks: trees of nodes, determinants by sums over
 * sets of columns, systems by Cramer's rule, factors by quotients of minors, texts by regular expressions.
 * It is slow and makes as many objects as it likes.
 */
final class Model {
    private static final String NUMBER = "(0|[1-9][0-9]{0,2})";
    private static final Pattern FORMULA = Pattern.compile("[A-D]=[A-D]([-+*][A-D]|')?");

    /** A block with its four quarters, or with none if it is a leaf. */
    private static final class Node {
        final int row;
        final int column;
        final int size;
        Node[] quarters;

        Node(int row, int column, int size) {
            this.row = row;
            this.column = column;
            this.size = size;
        }

        void cut() {
            int half = size / 2;
            quarters = new Node[] {new Node(row, column, half), new Node(row, column + half, half),
                new Node(row + half, column, half), new Node(row + half, column + half, half)};
        }

        Node copy() {
            Node copy = new Node(row, column, size);
            if (quarters != null) {
                copy.quarters = new Node[] {quarters[0].copy(), quarters[1].copy(), quarters[2].copy(),
                    quarters[3].copy()};
            }
            return copy;
        }

        String shape() {
            if (quarters == null) {
                return "-";
            }
            return "(" + quarters[0].shape() + quarters[1].shape() + quarters[2].shape() + quarters[3].shape() + ")";
        }

        void addLeaves(List<Node> leaves) {
            if (quarters == null) {
                leaves.add(this);
                return;
            }
            for (Node quarter : quarters) {
                quarter.addLeaves(leaves);
            }
        }

        List<Node> leaves() {
            List<Node> leaves = new ArrayList<>();
            addLeaves(leaves);
            return leaves;
        }

        Node parentOf(Node leaf) {
            if (quarters == null) {
                return null;
            }
            for (Node quarter : quarters) {
                Node found = quarter == leaf ? this : quarter.parentOf(leaf);
                if (found != null) {
                    return found;
                }
            }
            return null;
        }
    }

    private static final class State {
        int p = 101;
        int[][][] cells = new int[4][8][8];
        Node[] trees = {new Node(0, 0, 8), new Node(0, 0, 8), new Node(0, 0, 8), new Node(0, 0, 8)};

        State copy() {
            State copy = new State();
            copy.p = p;
            for (int table = 0; table < 4; table++) {
                copy.trees[table] = trees[table].copy();
                for (int row = 0; row < 8; row++) {
                    copy.cells[table][row] = cells[table][row].clone();
                }
            }
            return copy;
        }
    }

    private State now = new State();
    private State kept;
    private final List<State> past = new ArrayList<>();
    private String text = "";

    private void record() {
        past.add(now.copy());
        if (past.size() > 4) {
            past.remove(0);
        }
    }

    private static boolean outside(int number, int end) {
        return number < 0 || number >= end;
    }

    private boolean noLeaf(int table, int leaf) {
        return outside(table, 4) || outside(leaf, now.trees[table].leaves().size());
    }

    private int mod(long value) {
        return (int) (((value % now.p) + now.p) % now.p);
    }

    private int quotient(int a, int b) {
        for (int q = 0; q < now.p; q++) {
            if (mod((long) q * b) == a) {
                return q;
            }
        }
        throw new IllegalStateException(a + " / " + b);
    }

    private int fault(Pattern pattern) {
        for (int end = 1; end <= text.length(); end++) {
            Matcher matcher = pattern.matcher(text.substring(0, end));
            if (!matcher.matches() && !matcher.hitEnd()) {
                return end - 1;
            }
        }
        return pattern.matcher(text).matches() ? -1 : text.length();
    }

    private static String row(int size) {
        return NUMBER + ("," + NUMBER).repeat(size - 1);
    }

    private int[] numbers() {
        return Arrays.stream(text.split("[,;]")).mapToInt(Integer::parseInt).toArray();
    }

    /** The determinant of some rows and columns: row by row, over all sets of columns that are used up. */
    private int determinant(int[][] matrix, int[] rows, int[] columns) {
        int n = rows.length;
        int[] sums = new int[1 << n];
        sums[0] = mod(1);
        for (int set = 1; set < 1 << n; set++) {
            int row = Integer.bitCount(set) - 1;
            long sum = 0;
            for (int j = 0; j < n; j++) {
                if ((set >> j & 1) == 1) {
                    int behind = Integer.bitCount(set >> (j + 1));
                    long term = (long) matrix[rows[row]][columns[j]] * sums[set ^ 1 << j];
                    sum += behind % 2 == 0 ? term : -term;
                }
            }
            sums[set] = mod(sum);
        }
        return sums[(1 << n) - 1];
    }

    private static int[] upTo(int n) {
        int[] numbers = new int[n];
        for (int i = 0; i < n; i++) {
            numbers[i] = i;
        }
        return numbers;
    }

    private static int[] upTo(int n, int last) {
        int[] numbers = upTo(n + 1);
        numbers[n] = last;
        return numbers;
    }

    private int determinant(int[][] matrix) {
        return determinant(matrix, upTo(8), upTo(8));
    }

    /** The rank: each row is put into a base, in which a row stands at its first column that is not 0. */
    private int rank(int table, Node block) {
        int[][] base = new int[block.size][];
        int rank = 0;
        for (int i = 0; i < block.size; i++) {
            int[] row = Arrays.copyOfRange(now.cells[table][block.row + i], block.column, block.column + block.size);
            for (int j = 0; j < block.size; j++) {
                if (row[j] != 0 && base[j] == null) {
                    base[j] = row;
                    rank++;
                    break;
                }
                if (row[j] != 0) {
                    int share = quotient(row[j], base[j][j]);
                    for (int k = 0; k < block.size; k++) {
                        row[k] = mod(row[k] - (long) share * base[j][k]);
                    }
                }
            }
        }
        return rank;
    }

    private int cost(int table, Node block) {
        int rank = rank(table, block);
        return 2 * rank < block.size ? 2 * rank * block.size : block.size * block.size;
    }

    private int costOfLeaves(int table, Node tree) {
        int cost = 0;
        for (Node leaf : tree.leaves()) {
            cost += cost(table, leaf);
        }
        return cost;
    }

    private Node leastTree(int table, Node block) {
        Node whole = new Node(block.row, block.column, block.size);
        if (block.size == 1) {
            return whole;
        }
        Node apart = new Node(block.row, block.column, block.size);
        apart.cut();
        for (int i = 0; i < 4; i++) {
            apart.quarters[i] = leastTree(table, apart.quarters[i]);
        }
        return cost(table, whole) <= costOfLeaves(table, apart) ? whole : apart;
    }

    int setPrime(int prime) {
        if (prime > 251 || prime < 2 || !java.math.BigInteger.valueOf(prime).isProbablePrime(50)) {
            return -2;
        }
        if (prime == now.p) {
            return -5;
        }
        record();
        int previous = now.p;
        now.p = prime;
        for (int[][] table : now.cells) {
            for (int[] row : table) {
                Arrays.setAll(row, i -> row[i] % prime);
            }
        }
        return previous;
    }

    int set(int table, int row, int column, int value) {
        if (outside(table, 4) || outside(row, 8) || outside(column, 8)) {
            return -1;
        }
        if (outside(value, now.p)) {
            return -2;
        }
        int previous = now.cells[table][row][column];
        if (previous == value) {
            return -5;
        }
        record();
        now.cells[table][row][column] = value;
        return previous;
    }

    int addProduct(int table, int leaf) {
        if (noLeaf(table, leaf)) {
            return -1;
        }
        Node block = now.trees[table].leaves().get(leaf);
        int fault = fault(Pattern.compile(row(block.size) + ";" + row(block.size)));
        if (fault >= 0) {
            return -100 - fault;
        }
        int[] numbers = numbers();
        if (Arrays.stream(numbers).max().getAsInt() >= now.p) {
            return -2;
        }
        record();
        for (int i = 0; i < block.size; i++) {
            for (int j = 0; j < block.size; j++) {
                int[] row = now.cells[table][block.row + i];
                row[block.column + j] = mod(row[block.column + j] + (long) numbers[i] * numbers[block.size + j]);
            }
        }
        return rank(table, block);
    }

    int work() {
        int fault = fault(FORMULA);
        if (fault >= 0) {
            return -100 - fault;
        }
        record();
        State before = now.copy();
        int[][] left = before.cells[text.charAt(2) - 'A'];
        int[][] right = before.cells[text.length() == 5 ? text.charAt(4) - 'A' : 0];
        int target = text.charAt(0) - 'A';
        for (int row = 0; row < 8; row++) {
            for (int column = 0; column < 8; column++) {
                long value = left[row][column];
                if (text.endsWith("'")) {
                    value = left[column][row];
                } else if (text.indexOf('+') > 0) {
                    value += right[row][column];
                } else if (text.indexOf('-') > 0) {
                    value -= right[row][column];
                } else if (text.indexOf('*') > 0) {
                    value = 0;
                    for (int i = 0; i < 8; i++) {
                        value += (long) left[row][i] * right[i][column];
                    }
                }
                now.cells[target][row][column] = mod(value);
            }
        }
        return target;
    }

    int factor(int table, int lower, int upper) {
        if (outside(table, 4) || outside(lower, 4) || outside(upper, 4)) {
            return -1;
        }
        if (lower == upper) {
            return -2;
        }
        int[][] matrix = now.cells[table];
        int[] minors = new int[9];
        for (int n = 0; n <= 8; n++) {
            minors[n] = determinant(matrix, upTo(n), upTo(n));
            if (minors[n] == 0 && n < 8) {
                return -4;
            }
        }
        int[][] first = new int[8][8];
        int[][] second = new int[8][8];
        for (int i = 0; i < 8; i++) {
            first[i][i] = 1;
            second[i][i] = quotient(minors[i + 1], minors[i]);
            for (int j = i + 1; j < 8; j++) {
                second[i][j] = quotient(determinant(matrix, upTo(i + 1), upTo(i, j)), minors[i]);
                first[j][i] = quotient(determinant(matrix, upTo(i, j), upTo(i + 1)), minors[i + 1]);
            }
        }
        record();
        now.cells[lower] = first;
        now.cells[upper] = second;
        return minors[8];
    }

    int split(int table, int leaf) {
        if (noLeaf(table, leaf)) {
            return -1;
        }
        if (now.trees[table].leaves().get(leaf).size == 1) {
            return -4;
        }
        record();
        now.trees[table].leaves().get(leaf).cut();
        return now.trees[table].leaves().size();
    }

    int join(int table, int leaf) {
        if (noLeaf(table, leaf)) {
            return -1;
        }
        Node tree = now.trees[table];
        Node parent = tree.parentOf(tree.leaves().get(leaf));
        if (parent == null || !parent.shape().equals("(----)")) {
            return -4;
        }
        record();
        parent.quarters = null;
        return tree.leaves().indexOf(parent);
    }

    int recompress(int table) {
        if (outside(table, 4)) {
            return -1;
        }
        Node least = leastTree(table, now.trees[table]);
        if (least.shape().equals(now.trees[table].shape())) {
            return -5;
        }
        record();
        now.trees[table] = least;
        return costOfLeaves(table, least);
    }

    int type(char character) {
        if (text.length() == 60) {
            return -3;
        }
        text += character;
        return text.length();
    }

    int clearText() {
        int length = text.length();
        text = "";
        return length;
    }

    int undo() {
        if (past.isEmpty()) {
            return -5;
        }
        now = past.remove(past.size() - 1);
        return past.size();
    }

    int keep() {
        kept = now.copy();
        return now.p;
    }

    int restore() {
        if (kept == null) {
            return -5;
        }
        record();
        now = kept.copy();
        return now.p;
    }

    int cell(int table, int row, int column) {
        return outside(table, 4) || outside(row, 8) || outside(column, 8) ? -1 : now.cells[table][row][column];
    }

    int table(int table, int what) {
        if (outside(table, 4)) {
            return -1;
        }
        Node tree = now.trees[table];
        Node least = leastTree(table, tree);
        int diagonal = 0;
        int notZero = 0;
        for (int i = 0; i < 8; i++) {
            diagonal += now.cells[table][i][i];
            notZero += (int) Arrays.stream(now.cells[table][i]).filter(value -> value != 0).count();
        }
        int greatest = tree.leaves().stream().mapToInt(leaf -> rank(table, leaf)).max().getAsInt();
        int[] told = {rank(table, new Node(0, 0, 8)), determinant(now.cells[table]), mod(diagonal), tree.leaves().size(),
            costOfLeaves(table, tree), costOfLeaves(table, least), least.leaves().size(), greatest, notZero};
        return outside(what, told.length) ? -2 : told[what];
    }

    int leaf(int table, int leaf, int what) {
        if (noLeaf(table, leaf)) {
            return -1;
        }
        Node block = now.trees[table].leaves().get(leaf);
        int rank = rank(table, block);
        int[] told = {block.row, block.column, block.size, rank, cost(table, block), 2 * rank < block.size ? 1 : 0};
        return outside(what, told.length) ? -2 : told[what];
    }

    int leafAt(int table, int row, int column) {
        if (outside(table, 4) || outside(row, 8) || outside(column, 8)) {
            return -1;
        }
        List<Node> leaves = now.trees[table].leaves();
        for (int i = 0; i < leaves.size(); i++) {
            Node leaf = leaves.get(i);
            if (!outside(row - leaf.row, leaf.size) && !outside(column - leaf.column, leaf.size)) {
                return i;
            }
        }
        throw new IllegalStateException("no leaf");
    }

    int differ(int table, int other) {
        if (outside(table, 4) || outside(other, 4)) {
            return -1;
        }
        int found = 0;
        for (int i = 0; i < 64; i++) {
            found += now.cells[table][i / 8][i % 8] == now.cells[other][i / 8][i % 8] ? 0 : 1;
        }
        return found;
    }

    private int refusal(int table, int place) {
        if (outside(table, 4)) {
            return -1;
        }
        if (outside(place, 8)) {
            return -2;
        }
        int fault = fault(Pattern.compile(row(8)));
        if (fault >= 0) {
            return -100 - fault;
        }
        return Arrays.stream(numbers()).max().getAsInt() >= now.p ? -2 : 0;
    }

    int times(int table, int place) {
        if (refusal(table, place) != 0) {
            return refusal(table, place);
        }
        long sum = 0;
        for (int i = 0; i < 8; i++) {
            sum += (long) now.cells[table][place][i] * numbers()[i];
        }
        return mod(sum);
    }

    int solve(int table, int place) {
        if (refusal(table, place) != 0) {
            return refusal(table, place);
        }
        int whole = determinant(now.cells[table]);
        if (whole == 0) {
            return -4;
        }
        int[][] matrix = now.copy().cells[table];
        for (int i = 0; i < 8; i++) {
            matrix[i][place] = numbers()[i];
        }
        return quotient(determinant(matrix), whole);
    }

    int count(int what) {
        int cost = 0;
        int leaves = 0;
        for (int table = 0; table < 4; table++) {
            cost += costOfLeaves(table, now.trees[table]);
            leaves += now.trees[table].leaves().size();
        }
        int[] told = {now.p, cost, leaves, past.size(), text.length()};
        return outside(what, told.length) ? -2 : told[what];
    }
}
