import java.util.ArrayList;
import java.util.List;

/**
 * Looks at all that is in an object: the prime, cells and trees as they are, as they are after each undo
 * and after restore, and the text. Some of this can't be looked at without a change, and an object is good
 * for 512 calls alone; so each look takes a new object and leads it there again.
 */
final class Look {
    /** What is done with a new object. Some 180 calls at most: the dearest look takes another 328. */
    interface Steps {
        void on(BlockRanks x);
    }

    private interface Reading {
        void from(BlockRanks x, List<Integer> seen);
    }

    private static final int STATES = 4;

    private final Due due;

    Look(Due due) {
        this.due = due;
    }

    /** Compares all: the present state, the history, the snapshot and the text. */
    void same(String what, Steps got, Steps want) {
        sameNow(what, got, want);
        sameHistory(what, got, want);
        sameSnapshot(what, got, want);
        sameText(what, got, want);
    }

    /** Compares prime, cells and trees. */
    void sameNow(String what, Steps got, Steps want) {
        compare(what + ": prime and cells", got, want, Look::cells);
        compare(what + ": trees", got, want, Look::trees);
    }

    /** Compares how many states there are, and each of them. */
    void sameHistory(String what, Steps got, Steps want) {
        compare(what + ": states", got, want, (x, seen) -> seen.add(x.count(3)));
        for (int i = 1; i <= STATES; i++) {
            int times = i;
            compare(what + ": cells after undo " + i, got, want, (x, seen) -> {
                goBack(x, seen, times);
                cells(x, seen);
            });
            compare(what + ": trees after undo " + i, got, want, (x, seen) -> {
                goBack(x, seen, times);
                trees(x, seen);
            });
        }
    }

    void sameSnapshot(String what, Steps got, Steps want) {
        compare(what + ": cells of the snapshot", got, want, (x, seen) -> {
            seen.add(x.restore());
            cells(x, seen);
        });
        compare(what + ": trees of the snapshot", got, want, (x, seen) -> {
            seen.add(x.restore());
            trees(x, seen);
        });
    }

    /** Compares the length of the text and all that can be done with it. */
    void sameText(String what, Steps got, Steps want) {
        compare(what + ": text", got, want, Look::text);
    }

    private void compare(String what, Steps got, Steps want, Reading reading) {
        due.holds(what, seen(got, reading).equals(seen(want, reading)));
    }

    private static List<Integer> seen(Steps steps, Reading reading) {
        BlockRanks x = new BlockRanks();
        List<Integer> seen = new ArrayList<>();
        steps.on(x);
        reading.from(x, seen);
        return seen;
    }

    private static void goBack(BlockRanks x, List<Integer> seen, int times) {
        for (int i = 0; i < times; i++) {
            seen.add(x.undo());
        }
    }

    private static void cells(BlockRanks x, List<Integer> seen) {
        seen.add(x.count(0));
        for (int i = 0; i < 256; i++) {
            seen.add(x.cell(i / 64, i / 8 % 8, i % 8));
        }
    }

    private static void trees(BlockRanks x, List<Integer> seen) {
        for (int i = 0; i < 256; i++) {
            seen.add(x.leafAt(i / 64, i / 8 % 8, i % 8));
        }
    }

    private static void text(BlockRanks x, List<Integer> seen) {
        seen.add(x.count(4));
        for (int i = 0; i < 32; i++) {
            seen.add(x.times(i / 8, i % 8));
            seen.add(x.solve(i / 8, i % 8));
        }
        seen.add(x.work());
        for (int table = 0; table < 4; table++) {
            seen.add(x.addProduct(table, 0));
        }
        seen.add(x.clearText());
        cells(x, seen);
    }
}
