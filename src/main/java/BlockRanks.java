/**
 * Four square tables of remainders modulo a prime, each cut into blocks by a tree of its own.
 *
 * <p>DOC.md says what each call does and answers. All rows that a call works with are made once, with
 * the object, so that no call makes an object or an array.
 */
public final class BlockRanks {
    /** There is no such table, row, column or leaf. */
    public static final int UNKNOWN = -1;
    /** Another argument is out of range. */
    public static final int BAD_VALUE = -2;
    /** There is no more room. */
    public static final int FULL = -3;
    /** This is not possible. */
    public static final int NOT_POSSIBLE = -4;
    /** There is no such thing; not an error. */
    public static final int NONE = -5;

    private static final int TABLES = 4;
    private static final int SIDE = 8;
    private static final int CELLS = SIDE * SIDE;
    private static final int QUARTERS = 4;
    private static final int FIRST_PRIME = 101;
    private static final int LARGEST_PRIME = 251;
    private static final int LONGEST_TEXT = 60;
    private static final int LONGEST_NUMBER = 3;
    private static final int LONGEST_HISTORY = 4;
    private static final int NO_FAULT = -1;
    private static final int NO_LEAF = -1;
    private static final int FAULT_BASE = -100;

    private final State now = new State();
    private final State snapshot = new State();
    private boolean hasSnapshot;
    private final History history = new History();
    private final Text text = new Text();
    private final Elimination elimination = new Elimination();
    private final Tree leastTree = new Tree();
    private final int[] leastCosts = new int[CELLS];
    private final int[] results = new int[CELLS];

    /** Creates four tables of zeros that are not split. */
    public BlockRanks() {
    }

    // ---- cells

    /** Changes the prime: each cell becomes its remainder modulo the new one. */
    public int setPrime(int prime) {
        if (!isPrime(prime)) {
            return BAD_VALUE;
        }
        int previous = now.prime;
        if (prime == previous) {
            return NONE;
        }
        history.record(now);
        now.changePrime(prime);
        return previous;
    }

    /** Sets a cell and returns its previous value. */
    public int set(int table, int row, int column, int value) {
        if (!isTable(table) || !isInside(row) || !isInside(column)) {
            return UNKNOWN;
        }
        if (value < 0 || value >= now.prime) {
            return BAD_VALUE;
        }
        Table chosen = now.tableOf(table);
        int previous = chosen.at(row, column);
        if (value == previous) {
            return NONE;
        }
        history.record(now);
        chosen.put(row, column, value);
        return previous;
    }

    /** Adds to a leaf the product of the two rows of the text and returns the rank of the leaf then. */
    public int addProduct(int table, int leaf) {
        int start = leafStart(table, leaf);
        if (start == NO_LEAF) {
            return UNKNOWN;
        }
        Table chosen = now.tableOf(table);
        int size = chosen.tree.sizeAt(start);
        int fault = text.readRows(2, size);
        if (fault != NO_FAULT) {
            return FAULT_BASE - fault;
        }
        if (text.greatestNumber() >= now.prime) {
            return BAD_VALUE;
        }
        history.record(now);
        addRowsOfText(chosen, start, size);
        return blockRank(chosen, start, size);
    }

    /** Works out the formula of the text and returns the number of the table that is changed. */
    public int work() {
        int fault = text.readFormula();
        if (fault != NO_FAULT) {
            return FAULT_BASE - fault;
        }
        Table left = now.tableOf(text.left);
        Table right = now.tableOf(text.right);
        // The changed table may stand on the other side too: nothing is put before all is worked out.
        for (int row = 0; row < SIDE; row++) {
            for (int column = 0; column < SIDE; column++) {
                int value = formulaCell(left, right, row, column);
                results[row * SIDE + column] = remainder(value, now.prime);
            }
        }
        history.record(now);
        now.tableOf(text.target).putAll(results);
        return text.target;
    }

    /** Finds the two factors of a table and returns the product of the diagonal of the second one. */
    public int factor(int table, int lower, int upper) {
        if (!isTable(table) || !isTable(lower) || !isTable(upper)) {
            return UNKNOWN;
        }
        if (lower == upper) {
            return BAD_VALUE;
        }
        elimination.load(now.tableOf(table), 0, SIDE, now.prime);
        if (!elimination.decompose()) {
            return NOT_POSSIBLE;
        }
        history.record(now);
        putFactors(now.tableOf(lower), now.tableOf(upper));
        return elimination.determinant;
    }

    // ---- blocks

    /** Splits a leaf and returns how many leaves there are then. */
    public int split(int table, int leaf) {
        int start = leafStart(table, leaf);
        if (start == NO_LEAF) {
            return UNKNOWN;
        }
        Tree tree = now.tableOf(table).tree;
        if (tree.sizeAt(start) == 1) {
            return NOT_POSSIBLE;
        }
        history.record(now);
        tree.cut(start);
        return tree.leaves();
    }

    /** Joins a leaf and the other three quarters and returns the number of the leaf that they are then. */
    public int join(int table, int leaf) {
        int start = leafStart(table, leaf);
        if (start == NO_LEAF) {
            return UNKNOWN;
        }
        Tree tree = now.tableOf(table).tree;
        int size = tree.sizeAt(start);
        int first = Tree.startOfBlock(start, 2 * size);
        if (size == SIDE || !tree.hasFourLeaves(first, size)) {
            return NOT_POSSIBLE;
        }
        history.record(now);
        tree.merge(first, 2 * size);
        return tree.leavesBefore(first);
    }

    /** Gives a table its least tree and returns its cost then. */
    public int recompress(int table) {
        if (!isTable(table)) {
            return UNKNOWN;
        }
        Table chosen = now.tableOf(table);
        int cost = findLeastTree(chosen);
        if (leastTree.isLike(chosen.tree)) {
            return NONE;
        }
        history.record(now);
        chosen.tree.copyFrom(leastTree);
        return cost;
    }

    // ---- texts

    /** Types a character behind the text and returns the length of the text then. */
    public int type(char character) {
        return text.append(character) ? text.length : FULL;
    }

    /** Empties the text and returns the length that it had. */
    public int clearText() {
        int previous = text.length;
        text.length = 0;
        return previous;
    }

    // ---- history

    /** Removes and restores the latest state of the history and returns how many are left. */
    public int undo() {
        return history.takeLatest(now) ? history.length : NONE;
    }

    /** Takes a snapshot of the state and returns the prime. */
    public int keep() {
        snapshot.copyFrom(now);
        hasSnapshot = true;
        return now.prime;
    }

    /** Restores the state of the snapshot and returns the prime then. */
    public int restore() {
        if (!hasSnapshot) {
            return NONE;
        }
        history.record(now);
        now.copyFrom(snapshot);
        return now.prime;
    }

    // ---- what is told

    /** Tells a cell. */
    public int cell(int table, int row, int column) {
        if (!isTable(table) || !isInside(row) || !isInside(column)) {
            return UNKNOWN;
        }
        return now.tableOf(table).at(row, column);
    }

    /** Tells a number of a table. */
    public int table(int table, int what) {
        if (!isTable(table)) {
            return UNKNOWN;
        }
        Table chosen = now.tableOf(table);
        switch (what) {
            case 0:
                return blockRank(chosen, 0, SIDE);
            case 1:
                return tableDeterminant(chosen);
            case 2:
                return remainder(chosen.diagonalSum(), now.prime);
            case 3:
                return chosen.tree.leaves();
            case 4:
                return costOfTables(table, table);
            case 5:
                return findLeastTree(chosen);
            case 6:
                findLeastTree(chosen);
                return leastTree.leaves();
            case 7:
                return greatestLeafRank(chosen);
            case 8:
                return chosen.cellsNotZero();
            default:
                return BAD_VALUE;
        }
    }

    /** Tells a number of a leaf. */
    public int leaf(int table, int leaf, int what) {
        int start = leafStart(table, leaf);
        if (start == NO_LEAF) {
            return UNKNOWN;
        }
        Table chosen = now.tableOf(table);
        int size = chosen.tree.sizeAt(start);
        switch (what) {
            case 0:
                return Tree.rowOf(start);
            case 1:
                return Tree.columnOf(start);
            case 2:
                return size;
            case 3:
                return blockRank(chosen, start, size);
            case 4:
                return leafCost(size, blockRank(chosen, start, size));
            case 5:
                return 2 * size * blockRank(chosen, start, size) < size * size ? 1 : 0;
            default:
                return BAD_VALUE;
        }
    }

    /** Tells the leaf in which a cell is. */
    public int leafAt(int table, int row, int column) {
        if (!isTable(table) || !isInside(row) || !isInside(column)) {
            return UNKNOWN;
        }
        int step = Tree.stepOf(row, column);
        return now.tableOf(table).tree.leavesBefore(step + 1) - 1;
    }

    /** Tells how many cells of two tables differ. */
    public int differ(int table, int other) {
        if (!isTable(table) || !isTable(other)) {
            return UNKNOWN;
        }
        return now.tableOf(table).cellsUnlike(now.tableOf(other));
    }

    /** Tells a number of the product of a table and the row of the text. */
    public int times(int table, int place) {
        int refusal = refusalOfRow(table, place);
        if (refusal != 0) {
            return refusal;
        }
        Table chosen = now.tableOf(table);
        int sum = 0;
        for (int column = 0; column < SIDE; column++) {
            sum += chosen.at(place, column) * text.numberAt(column);
        }
        return remainder(sum, now.prime);
    }

    /** Tells a number of the column by which a table has to be multiplied to give the row of the text. */
    public int solve(int table, int place) {
        int refusal = refusalOfRow(table, place);
        if (refusal != 0) {
            return refusal;
        }
        elimination.load(now.tableOf(table), 0, SIDE, now.prime);
        for (int row = 0; row < SIDE; row++) {
            elimination.putRightSide(row, text.numberAt(row));
        }
        elimination.reduce();
        return elimination.rank == SIDE ? elimination.rightSideAt(place) : NOT_POSSIBLE;
    }

    /** Tells a number of the whole object. */
    public int count(int what) {
        switch (what) {
            case 0:
                return now.prime;
            case 1:
                return costOfTables(0, TABLES - 1);
            case 2:
                return leavesOfAll();
            case 3:
                return history.length;
            case 4:
                return text.length;
            default:
                return BAD_VALUE;
        }
    }

    // ---- arguments

    private static boolean isTable(int number) {
        return number >= 0 && number < TABLES;
    }

    private static boolean isInside(int rowOrColumn) {
        return rowOrColumn >= 0 && rowOrColumn < SIDE;
    }

    private static boolean isPrime(int number) {
        if (number < 2 || number > LARGEST_PRIME) {
            return false;
        }
        for (int divisor = 2; divisor * divisor <= number; divisor++) {
            if (number % divisor == 0) {
                return false;
            }
        }
        return true;
    }

    /** The step at which a leaf starts, or NO_LEAF if there is no such table or leaf. */
    private int leafStart(int table, int leaf) {
        return isTable(table) ? now.tableOf(table).tree.startOf(leaf) : NO_LEAF;
    }

    /** What a call that uses a row of the text for a whole table answers if it can't, or 0 if it can. */
    private int refusalOfRow(int table, int place) {
        if (!isTable(table)) {
            return UNKNOWN;
        }
        if (!isInside(place)) {
            return BAD_VALUE;
        }
        int fault = text.readRows(1, SIDE);
        if (fault != NO_FAULT) {
            return FAULT_BASE - fault;
        }
        return text.greatestNumber() >= now.prime ? BAD_VALUE : 0;
    }

    // ---- remainders

    private static int remainder(int value, int prime) {
        if (prime < 2) {
            return 0;
        }
        int rest = value % prime;
        return rest < 0 ? rest + prime : rest;
    }

    /** The inverse of a number that is not 0: by Fermat, its power with the exponent prime - 2. */
    private static int inverse(int value, int prime) {
        int answer = 1;
        int power = value;
        for (int exponent = prime - 2; exponent > 0; exponent /= 2) {
            if (exponent % 2 == 1) {
                answer = remainder(answer * power, prime);
            }
            power = remainder(power * power, prime);
        }
        return answer;
    }

    // ---- changes of cells

    private void addRowsOfText(Table chosen, int start, int size) {
        int top = Tree.rowOf(start);
        int left = Tree.columnOf(start);
        for (int i = 0; i < size; i++) {
            for (int j = 0; j < size; j++) {
                int product = text.numberAt(i) * text.numberAt(size + j);
                int value = chosen.at(top + i, left + j) + product;
                chosen.put(top + i, left + j, remainder(value, now.prime));
            }
        }
    }

    private int formulaCell(Table left, Table right, int row, int column) {
        switch (text.operation) {
            case '+':
                return left.at(row, column) + right.at(row, column);
            case '-':
                return left.at(row, column) - right.at(row, column);
            case '*':
                return productCell(left, right, row, column);
            case '\'':
                return left.at(column, row);
            default:
                return left.at(row, column);
        }
    }

    private static int productCell(Table left, Table right, int row, int column) {
        int sum = 0;
        for (int i = 0; i < SIDE; i++) {
            sum += left.at(row, i) * right.at(i, column);
        }
        return sum;
    }

    private void putFactors(Table lower, Table upper) {
        for (int row = 0; row < SIDE; row++) {
            for (int column = 0; column < SIDE; column++) {
                lower.put(row, column, elimination.lowerFactorAt(row, column));
                upper.put(row, column, elimination.upperFactorAt(row, column));
            }
        }
    }

    // ---- ranks and costs

    private int blockRank(Table chosen, int start, int size) {
        elimination.load(chosen, start, size, now.prime);
        elimination.reduce();
        return elimination.rank;
    }

    private int tableDeterminant(Table chosen) {
        elimination.load(chosen, 0, SIDE, now.prime);
        elimination.reduce();
        return elimination.determinant;
    }

    /** What a leaf costs: it is kept in full, or as a sum of as many products of two rows as its rank. */
    private static int leafCost(int size, int rank) {
        return Math.min(size * size, 2 * size * rank);
    }

    private int costOfTables(int first, int last) {
        int cost = 0;
        for (int number = first; number <= last; number++) {
            Table chosen = now.tableOf(number);
            for (int start = 0; start < CELLS; start++) {
                int size = chosen.tree.sizeAt(start);
                if (size > 0) {
                    cost += leafCost(size, blockRank(chosen, start, size));
                }
            }
        }
        return cost;
    }

    private int greatestLeafRank(Table chosen) {
        int greatest = 0;
        for (int start = 0; start < CELLS; start++) {
            int size = chosen.tree.sizeAt(start);
            if (size > 0) {
                greatest = Math.max(greatest, blockRank(chosen, start, size));
            }
        }
        return greatest;
    }

    private int leavesOfAll() {
        int leaves = 0;
        for (int number = 0; number < TABLES; number++) {
            leaves += now.tableOf(number).tree.leaves();
        }
        return leaves;
    }

    /** Leaves the least tree of a table in leastTree and returns its cost. */
    private int findLeastTree(Table chosen) {
        // From the small blocks to the large ones: the least costs of the quarters are there already.
        for (int size = 1; size <= SIDE; size *= 2) {
            for (int start = 0; start < CELLS; start += size * size) {
                int whole = leafCost(size, blockRank(chosen, start, size));
                int apart = size == 1 ? whole : leastCostOfQuarters(start, size);
                if (whole <= apart) {
                    leastTree.merge(start, size);
                }
                leastCosts[start] = Math.min(whole, apart);
            }
        }
        return leastCosts[0];
    }

    private int leastCostOfQuarters(int start, int size) {
        int cost = 0;
        for (int quarter = 0; quarter < QUARTERS; quarter++) {
            int step = Tree.startOfQuarter(start, size, quarter);
            if (step >= 0 && step < CELLS) {
                cost += leastCosts[step];
            }
        }
        return cost;
    }

    /**
     * A tree of blocks. A walk through all 64 cells, block by block, passes every block in one stretch;
     * so a tree needs no nodes: it is the size of each leaf, kept at the step at which the leaf starts,
     * and 0 at all other steps. The n-th size that is not 0 is that of the n-th leaf.
     */
    private static final class Tree {
        private final int[] sizes = new int[CELLS];

        Tree() {
            sizes[0] = SIDE;
        }

        /** The bits of a step are by turns those of the row and of the column, the greatest first. */
        static int rowOf(int step) {
            return (step >> 3 & 4) | (step >> 2 & 2) | (step >> 1 & 1);
        }

        static int columnOf(int step) {
            return rowOf(step << 1);
        }

        static int stepOf(int row, int column) {
            return spread(row) << 1 | spread(column);
        }

        private static int spread(int bits) {
            return (bits & 4) << 2 | (bits & 2) << 1 | (bits & 1);
        }

        /** Stretches are powers of 2 and start at multiples of themselves, so a mask finds the start. */
        static int startOfBlock(int step, int size) {
            return step & -(size * size);
        }

        static int startOfQuarter(int start, int size, int quarter) {
            return start + quarter * (size * size / QUARTERS);
        }

        int sizeAt(int step) {
            return step >= 0 && step < CELLS ? sizes[step] : 0;
        }

        private void putSize(int step, int size) {
            if (step >= 0 && step < CELLS) {
                sizes[step] = size;
            }
        }

        int leaves() {
            return leavesBefore(CELLS);
        }

        int leavesBefore(int end) {
            int leaves = 0;
            for (int step = 0; step < end && step < CELLS; step++) {
                if (sizes[step] > 0) {
                    leaves++;
                }
            }
            return leaves;
        }

        int startOf(int leaf) {
            int passed = 0;
            for (int step = 0; step < CELLS; step++) {
                if (sizes[step] > 0) {
                    if (passed == leaf) {
                        return step;
                    }
                    passed++;
                }
            }
            return NO_LEAF;
        }

        void cut(int start) {
            int size = sizeAt(start);
            for (int quarter = 0; quarter < QUARTERS; quarter++) {
                putSize(startOfQuarter(start, size, quarter), size / 2);
            }
        }

        boolean hasFourLeaves(int start, int size) {
            for (int quarter = 0; quarter < QUARTERS; quarter++) {
                if (sizeAt(startOfQuarter(start, 2 * size, quarter)) != size) {
                    return false;
                }
            }
            return true;
        }

        /** Makes a block one leaf, whatever it was cut into. */
        void merge(int start, int size) {
            for (int i = 0; i < size * size && i < CELLS; i++) {
                putSize(start + i, 0);
            }
            putSize(start, size);
        }

        boolean isLike(Tree other) {
            for (int step = 0; step < CELLS; step++) {
                if (sizes[step] != other.sizes[step]) {
                    return false;
                }
            }
            return true;
        }

        void copyFrom(Tree other) {
            System.arraycopy(other.sizes, 0, sizes, 0, CELLS);
        }
    }

    /** The cells of a table, row by row, and its tree. */
    private static final class Table {
        private final int[] cells = new int[CELLS];
        private final Tree tree = new Tree();

        int at(int row, int column) {
            return isInside(row) && isInside(column) ? cells[row * SIDE + column] : 0;
        }

        void put(int row, int column, int value) {
            if (isInside(row) && isInside(column)) {
                cells[row * SIDE + column] = value;
            }
        }

        void putAll(int[] values) {
            for (int i = 0; i < CELLS && i < values.length; i++) {
                cells[i] = values[i];
            }
        }

        void reduceCells(int prime) {
            for (int i = 0; i < CELLS; i++) {
                cells[i] = remainder(cells[i], prime);
            }
        }

        int diagonalSum() {
            int sum = 0;
            for (int i = 0; i < SIDE; i++) {
                sum += at(i, i);
            }
            return sum;
        }

        int cellsNotZero() {
            int found = 0;
            for (int i = 0; i < CELLS; i++) {
                if (cells[i] != 0) {
                    found++;
                }
            }
            return found;
        }

        int cellsUnlike(Table other) {
            int found = 0;
            for (int i = 0; i < CELLS; i++) {
                if (cells[i] != other.cells[i]) {
                    found++;
                }
            }
            return found;
        }

        void copyFrom(Table other) {
            System.arraycopy(other.cells, 0, cells, 0, CELLS);
            tree.copyFrom(other.tree);
        }
    }

    /** All that undo and restore bring back: the prime and the tables with their trees. */
    private static final class State {
        private int prime = FIRST_PRIME;
        private final Table[] tables = {new Table(), new Table(), new Table(), new Table()};

        /** The mask keeps any number among the four; isTable tells beforehand whether it is one of them. */
        Table tableOf(int number) {
            return tables[number & (TABLES - 1)];
        }

        void changePrime(int next) {
            prime = next;
            for (int number = 0; number < TABLES; number++) {
                tableOf(number).reduceCells(next);
            }
        }

        void copyFrom(State other) {
            prime = other.prime;
            for (int number = 0; number < TABLES; number++) {
                tableOf(number).copyFrom(other.tableOf(number));
            }
        }
    }

    /** The latest states, the oldest one first; the objects of dropped states are used again. */
    private static final class History {
        private final State[] states = {new State(), new State(), new State(), new State()};
        private int length;

        void record(State state) {
            if (length >= LONGEST_HISTORY) {
                dropOldest();
            }
            if (length >= 0 && length < LONGEST_HISTORY) {
                states[length].copyFrom(state);
                length++;
            }
        }

        private void dropOldest() {
            State oldest = states[0];
            for (int i = 1; i < LONGEST_HISTORY; i++) {
                states[i - 1] = states[i];
            }
            states[LONGEST_HISTORY - 1] = oldest;
            length = LONGEST_HISTORY - 1;
        }

        /** Brings the latest state back into the given one; false if there is none. */
        boolean takeLatest(State state) {
            if (length < 1 || length > LONGEST_HISTORY) {
                return false;
            }
            length--;
            state.copyFrom(states[length]);
            return true;
        }
    }

    /** Rows of numbers on which a block is eliminated, each with the right side of its equation behind it. */
    private static final class Elimination {
        private final int[][] rows = new int[SIDE][SIDE + 1];
        private int prime = FIRST_PRIME;
        private int size;
        private int rank;
        private int determinant;

        /** Takes over a block, with zeros for right sides. */
        void load(Table source, int start, int blockSize, int modulus) {
            prime = modulus;
            size = Math.max(0, Math.min(SIDE, blockSize));
            int top = Tree.rowOf(start);
            int left = Tree.columnOf(start);
            for (int row = 0; row < size; row++) {
                for (int column = 0; column < size; column++) {
                    rows[row][column] = source.at(top + row, left + column);
                }
                rows[row][size] = 0;
            }
        }

        void putRightSide(int row, int value) {
            if (row >= 0 && row < size) {
                rows[row][size] = value;
            }
        }

        int rightSideAt(int row) {
            return row >= 0 && row < size ? rows[row][size] : 0;
        }

        /** Finds rank and determinant; with the full rank, the right sides become the solution. */
        void reduce() {
            rank = 0;
            determinant = 1;
            for (int column = 0; column < size && rank < size; column++) {
                int pivotRow = firstRowWith(column);
                if (pivotRow < size) {
                    exchangeRows(rank, pivotRow);
                    clearColumn(column);
                    rank++;
                }
            }
            if (rank < size) {
                determinant = 0;
            }
        }

        /** The first row, from the rank on, that is not 0 in the column, or the size if there is none. */
        private int firstRowWith(int column) {
            int row = rank;
            while (row < size && rows[row][column] == 0) {
                row++;
            }
            return row;
        }

        private void exchangeRows(int upper, int lower) {
            if (upper == lower || !isInside(upper) || !isInside(lower)) {
                return;
            }
            int[] kept = rows[upper];
            rows[upper] = rows[lower];
            rows[lower] = kept;
            determinant = remainder(-determinant, prime);
        }

        /** Makes the number in the row of the rank 1, and all others in its column 0. */
        private void clearColumn(int column) {
            if (!isInside(rank) || !isInside(column)) {
                return;
            }
            int[] source = rows[rank];
            determinant = remainder(determinant * source[column], prime);
            int scale = inverse(source[column], prime);
            for (int i = column; i <= size; i++) {
                source[i] = remainder(source[i] * scale, prime);
            }
            for (int row = 0; row < size; row++) {
                if (row != rank) {
                    subtract(rows[row], source, rows[row][column], column);
                }
            }
        }

        private void subtract(int[] target, int[] source, int factor, int column) {
            for (int i = Math.max(0, column); factor != 0 && i <= size; i++) {
                target[i] = remainder(target[i] - factor * source[i], prime);
            }
        }

        /**
         * Finds the two factors and keeps them together: the second one in its place, the first one below
         * the diagonal. False if a number of the diagonal that is divided by is 0.
         */
        boolean decompose() {
            determinant = 1;
            for (int step = 0; step < size; step++) {
                int pivot = rows[step][step];
                determinant = remainder(determinant * pivot, prime);
                if (pivot == 0 && step < size - 1) {
                    return false;
                }
                int scale = inverse(pivot, prime);
                for (int row = step + 1; row < size; row++) {
                    int share = remainder(rows[row][step] * scale, prime);
                    subtract(rows[row], rows[step], share, step);
                    rows[row][step] = share;
                }
            }
            return true;
        }

        int lowerFactorAt(int row, int column) {
            if (row == column) {
                return 1;
            }
            return isInside(row) && column >= 0 && column < row ? rows[row][column] : 0;
        }

        int upperFactorAt(int row, int column) {
            return isInside(column) && row >= 0 && row <= column ? rows[row][column] : 0;
        }
    }

    /** The text, and what was read from it last: a formula or rows of numbers. */
    private static final class Text {
        private static final int NOTHING = -1;

        private final int[] signs = new int[LONGEST_TEXT];
        private final int[] numbers = new int[2 * SIDE];
        private int length;
        /** The place of the next sign to be read; where reading stops early, it is the fault. */
        private int place;
        private int numbersRead;
        private int target;
        private int left;
        private int right;
        private int operation = NOTHING;

        boolean append(char character) {
            if (length < 0 || length >= LONGEST_TEXT) {
                return false;
            }
            signs[length] = character;
            length++;
            return true;
        }

        int numberAt(int index) {
            return index >= 0 && index < numbersRead && index < numbers.length ? numbers[index] : 0;
        }

        int greatestNumber() {
            int greatest = 0;
            for (int i = 0; i < numbersRead; i++) {
                greatest = Math.max(greatest, numberAt(i));
            }
            return greatest;
        }

        /** Reads one or two rows of as many numbers as the size; returns the fault or NO_FAULT. */
        int readRows(int rows, int size) {
            place = 0;
            numbersRead = 0;
            int wanted = Math.min(rows * size, numbers.length);
            for (int i = 0; i < wanted; i++) {
                boolean isAllowed = i == 0 || take(i == size ? ';' : ',');
                if (!isAllowed || !takeNumber()) {
                    return place;
                }
            }
            return faultBehind();
        }

        /** Reads a formula; returns the fault or NO_FAULT. */
        int readFormula() {
            place = 0;
            target = takeLetter();
            if (target == NOTHING || !take('=')) {
                return place;
            }
            left = takeLetter();
            if (left == NOTHING) {
                return place;
            }
            right = left;
            operation = takeOperation();
            if (operation != NOTHING && operation != '\'') {
                right = takeLetter();
                if (right == NOTHING) {
                    return place;
                }
            }
            return faultBehind();
        }

        /** What stands behind a whole row or formula is not allowed there. */
        private int faultBehind() {
            return place < length ? place : NO_FAULT;
        }

        private int nextSign() {
            return place >= 0 && place < length && place < LONGEST_TEXT ? signs[place] : NOTHING;
        }

        private boolean take(int sign) {
            if (nextSign() != sign) {
                return false;
            }
            place++;
            return true;
        }

        private int takeLetter() {
            int sign = nextSign();
            if (sign < 'A' || sign > 'D') {
                return NOTHING;
            }
            place++;
            return sign - 'A';
        }

        private int takeOperation() {
            int sign = nextSign();
            if (sign != '+' && sign != '-' && sign != '*' && sign != '\'') {
                return NOTHING;
            }
            place++;
            return sign;
        }

        private boolean takeNumber() {
            if (!isDigit(nextSign()) || numbersRead < 0 || numbersRead >= numbers.length) {
                return false;
            }
            int value = takeDigit();
            if (value != 0) {
                for (int digits = 1; digits < LONGEST_NUMBER && isDigit(nextSign()); digits++) {
                    value = value * 10 + takeDigit();
                }
            }
            numbers[numbersRead] = value;
            numbersRead++;
            return true;
        }

        private int takeDigit() {
            int digit = nextSign() - '0';
            place++;
            return digit;
        }

        private static boolean isDigit(int sign) {
            return sign >= '0' && sign <= '9';
        }
    }
}
