import java.util.ArrayList;
import java.util.List;

/**
 * Promises 12 to 14, and the sentences under HISTORY: a test for each sentence, at its edges.
 * The first remark of a test names the promise and the sentence; SentencesTest compares it with the document.
 */
public final class HistoryEdgesTest {
    private static final Due DUE = new Due("HistoryEdgesTest");
    private static final Look LOOK = new Look(DUE);

    /** A call of the class. */
    private interface Call {
        int on(BlockRanks x);
    }

    public static void main(String[] args) {
        setPrimeIsAnAct();
        setIsAnAct();
        addProductIsAnAct();
        workIsAnAct();
        factorIsAnAct();
        splitIsAnAct();
        joinIsAnAct();
        recompressIsAnAct();
        restoreIsAnAct();
        typeIsNoAct();
        clearTextIsNoAct();
        undoIsNoAct();
        keepIsNoAct();
        whatIsToldIsNoAct();
        fourStatesAreKept();
        theOldestOneIsDropped();
        undoReturnsTheStatesThatAreLeft();
        undoOfAnEmptyHistory();
        undoRestoresTheLatest();
        undoBringsBackCellsTreesAndPrime();
        textIsNoPartOfAState();
        historyIsNoPartOfAState();
        snapshotIsNoPartOfAState();
        keepTakesTheState();
        keepReturnsThePrime();
        keepInPlaceOfTheOneThatWas();
        restoreReturnsThePrimeThen();
        oneSnapshotThatIsEmptyAtFirst();
        restoreWithoutASnapshot();
        theSnapshotStays();
        DUE.finish();
    }

    // ---- acts

    /** Different tables and trees, and as many states in the history as told. 61 calls at most. */
    private static void prepare(BlockRanks x, int states) {
        x.setPrime(13);
        Due.fillDiagonal(x, 0);
        Due.fillDiagonal(x, 1);
        Due.fillDiagonal(x, 3);
        x.set(3, 7, 7, 12);
        x.set(2, 1, 6, 11);
        x.split(1, 0);
        x.split(1, 0);
        x.keep();
        x.setPrime(7);
        for (int i = 0; i < 4; i++) {
            x.set(2, 2, 5, i + 1);
        }
        for (int i = 0; i < 4; i++) {
            x.undo();
        }
        for (int i = 0; i < states; i++) {
            x.set(2, 2, 5, i + 1);
        }
    }

    /** An act records the state that was before it, whatever it changes, with an empty and with a full history. */
    private static void isAnAct(String name, String text, Call act) {
        for (int states : new int[] {0, 1, 3, 4}) {
            BlockRanks x = new BlockRanks();
            prepare(x, states);
            Due.write(x, text);
            DUE.holds(name + " is neither an error nor NONE", act.on(x) >= 0);
            DUE.is(name + ": states, from " + states, x.count(3), Math.min(4, states + 1));
            DUE.is(name + ": undo(), from " + states, x.undo(), Math.min(3, states));
            Look.Steps before = y -> {
                prepare(y, states);
                Due.write(y, text);
            };
            Look.Steps back = y -> {
                before.on(y);
                act.on(y);
                y.undo();
            };
            if (states < 4) {
                LOOK.same(name + " and undo(), from " + states, back, before);
            } else {
                // The oldest state is lost; all else is as it was.
                sameButTheOldest(name + " and undo(), from 4", back, before);
            }
        }
    }

    private static void sameButTheOldest(String what, Look.Steps back, Look.Steps before) {
        LOOK.sameNow(what, back, before);
        LOOK.sameSnapshot(what, back, before);
        LOOK.sameText(what, back, before);
        for (int i = 1; i <= 3; i++) {
            int times = i;
            LOOK.sameNow(what + " " + times + " times more", x -> {
                back.on(x);
                goBack(x, times);
            }, x -> {
                before.on(x);
                goBack(x, times);
            });
        }
        BlockRanks x = new BlockRanks();
        back.on(x);
        goBack(x, 3);
        DUE.is(what + " four times more", x.undo(), BlockRanks.NONE);
    }

    private static void goBack(BlockRanks x, int times) {
        for (int i = 0; i < times; i++) {
            x.undo();
        }
    }

    /** Promise 2: "This is an act." */
    private static void setPrimeIsAnAct() {
        DUE.promise("promise 2, an act");
        isAnAct("setPrime(2)", "", x -> x.setPrime(2));
        // No cell becomes another one.
        isAnAct("setPrime(251)", "", x -> x.setPrime(251));
    }

    /** Promise 3: "This is an act." */
    private static void setIsAnAct() {
        DUE.promise("promise 3, an act");
        isAnAct("set(3, 7, 7, 0)", "", x -> x.set(3, 7, 7, 0));
        isAnAct("set(0, 0, 0, 6)", "", x -> x.set(0, 0, 0, 6));
    }

    /** Promise 4: "This is an act." Also if the product is 0 and no cell becomes another one. */
    private static void addProductIsAnAct() {
        DUE.promise("promise 4, an act");
        isAnAct("addProduct(0, 0)", "1,2,3,4,5,6,0,1;1,1,1,1,1,1,1,6", x -> x.addProduct(0, 0));
        isAnAct("addProduct(0, 0) of 0", "0,0,0,0,0,0,0,0;1,2,3,4,5,6,0,1", x -> x.addProduct(0, 0));
        isAnAct("addProduct(1, 3) of 0", "6,6;0,0", x -> x.addProduct(1, 3));
        isAnAct("addProduct(1, 0) of zeros alone", "0,0;0,0", x -> x.addProduct(1, 0));
    }

    /** Promise 5: "This is an act." Also if no cell becomes another one. */
    private static void workIsAnAct() {
        DUE.promise("promise 5, an act");
        isAnAct("B=A*D", "B=A*D", BlockRanks::work);
        isAnAct("A=A", "A=A", BlockRanks::work);
        isAnAct("D=D'", "D=D'", BlockRanks::work);
        isAnAct("A=A*B", "A=A*B", BlockRanks::work);
    }

    /** Promise 6: "This is an act." Also if no cell becomes another one. */
    private static void factorIsAnAct() {
        DUE.promise("promise 6, an act");
        isAnAct("factor(3, 1, 2)", "", x -> x.factor(3, 1, 2));
        isAnAct("factor(0, 0, 1)", "", x -> x.factor(0, 0, 1));
        isAnAct("factor(3, 0, 3)", "", x -> x.factor(3, 0, 3));
    }

    /** Promise 7: "This is an act." */
    private static void splitIsAnAct() {
        DUE.promise("promise 7, an act");
        isAnAct("split(0, 0)", "", x -> x.split(0, 0));
        isAnAct("split(1, 3)", "", x -> x.split(1, 3));
    }

    /** Promise 8: "This is an act." */
    private static void joinIsAnAct() {
        DUE.promise("promise 8, an act");
        isAnAct("join(1, 0)", "", x -> x.join(1, 0));
        isAnAct("join(1, 3)", "", x -> x.join(1, 3));
    }

    /** Promise 9: "This is an act." Also if the cost stays. */
    private static void recompressIsAnAct() {
        DUE.promise("promise 9, an act");
        isAnAct("recompress(0)", "", x -> x.recompress(0));
        isAnAct("recompress(1)", "", x -> x.recompress(1));
        BlockRanks x = new BlockRanks();
        x.split(3, 0);
        DUE.is("zeros cost 0 in each tree", x.recompress(3), 0);
        DUE.is("states", x.count(3), 2);
        x.undo();
        DUE.is("leaves", x.table(3, 3), 4);
    }

    /** Promise 14: "This is an act." Also if the state is that of the snapshot. */
    private static void restoreIsAnAct() {
        DUE.promise("promise 14, an act");
        isAnAct("restore()", "", BlockRanks::restore);
        BlockRanks x = new BlockRanks();
        x.keep();
        for (int i = 1; i <= 6; i++) {
            DUE.is("restore()", x.restore(), 101);
            DUE.is("states", x.count(3), Math.min(4, i));
        }
    }

    // ---- what is no act

    /** What is no act records nothing, with an empty, a half and a full history. */
    private static void recordsNothing(String name, String text, Call call) {
        for (int states : new int[] {0, 2, 4}) {
            BlockRanks x = new BlockRanks();
            prepare(x, states);
            Due.write(x, text);
            call.on(x);
            DUE.is(name + ": states, from " + states, x.count(3), states);
            Look.Steps before = y -> {
                prepare(y, states);
                Due.write(y, text);
            };
            Look.Steps behind = y -> {
                before.on(y);
                call.on(y);
            };
            LOOK.sameNow(name + ", from " + states, behind, before);
            LOOK.sameHistory(name + ", from " + states, behind, before);
        }
    }

    /** Promise 10, HISTORY: "Each call of a method that is described as an act": type is none. */
    private static void typeIsNoAct() {
        DUE.promise("promise 10, no act");
        recordsNothing("type('A')", "", x -> x.type('A'));
        recordsNothing("type('A')", "A=", x -> x.type('A'));
    }

    /** Promise 11, HISTORY: "Each call of a method that is described as an act": clearText is none. */
    private static void clearTextIsNoAct() {
        DUE.promise("promise 11, no act");
        recordsNothing("clearText()", "A=B", BlockRanks::clearText);
        recordsNothing("clearText()", "", BlockRanks::clearText);
    }

    /** Promise 12, HISTORY: "Each call of a method that is described as an act": undo is none, and can't be undone. */
    private static void undoIsNoAct() {
        DUE.promise("promise 12, no act");
        BlockRanks x = new BlockRanks();
        prepare(x, 3);
        for (int left = 2; left >= 0; left--) {
            DUE.is("undo()", x.undo(), left);
            DUE.is("states", x.count(3), left);
        }
        DUE.is("the first state", x.cell(2, 2, 5), 0);
    }

    /** Promise 13, HISTORY: "Each call of a method that is described as an act": keep is none. */
    private static void keepIsNoAct() {
        DUE.promise("promise 13, no act");
        recordsNothing("keep()", "", BlockRanks::keep);
    }

    /** Promise 22, HISTORY: "Each call of a method that is described as an act": what is told changes nothing. */
    private static void whatIsToldIsNoAct() {
        DUE.promise("promise 15, no act");
        recordsNothing("cell(2, 1, 6)", "", x -> x.cell(2, 1, 6));
        DUE.promise("promise 16, no act");
        for (int i = 0; i < 9; i++) {
            int what = i;
            recordsNothing("table(1, " + what + ")", "", x -> x.table(1, what));
        }
        DUE.promise("promise 17, no act");
        for (int i = 0; i < 6; i++) {
            int what = i;
            recordsNothing("leaf(1, 2, " + what + ")", "", x -> x.leaf(1, 2, what));
        }
        DUE.promise("promise 18, no act");
        recordsNothing("leafAt(1, 7, 7)", "", x -> x.leafAt(1, 7, 7));
        DUE.promise("promise 19, no act");
        recordsNothing("differ(1, 2)", "", x -> x.differ(1, 2));
        DUE.promise("promise 20, no act");
        recordsNothing("times(2, 1)", "1,2,3,4,5,6,0,1", x -> x.times(2, 1));
        DUE.promise("promise 21, no act");
        recordsNothing("solve(3, 7)", "1,2,3,4,5,6,0,1", x -> x.solve(3, 7));
        DUE.promise("promise 22, no act");
        for (int i = 0; i < 5; i++) {
            int what = i;
            recordsNothing("count(" + what + ")", "", x -> x.count(what));
        }
    }

    // ---- the history

    /** Promise 12, HISTORY: "A history of at most 4 states is kept". After 0 to 8 acts. */
    private static void fourStatesAreKept() {
        DUE.promise("promise 12, at most 4 states");
        for (int acts = 0; acts <= 8; acts++) {
            BlockRanks x = new BlockRanks();
            for (int i = 1; i <= acts; i++) {
                x.set(0, 0, 0, i);
                DUE.is("states", x.count(3), Math.min(4, i));
            }
            int undone = 0;
            while (undone < 10 && x.undo() >= 0) {
                undone++;
            }
            DUE.is(acts + " acts, undone", undone, Math.min(4, acts));
            DUE.is(acts + " acts, the state then", x.cell(0, 0, 0), Math.max(0, acts - 4));
        }
    }

    /** Promise 12, HISTORY: "when one more is recorded, the oldest one is dropped". Also after some were undone. */
    private static void theOldestOneIsDropped() {
        DUE.promise("promise 12, the oldest one is dropped");
        BlockRanks x = new BlockRanks();
        List<Integer> past = new ArrayList<>();
        int value = 0;
        for (int step = 0; step < 60; step++) {
            if (step % 5 < 3 || step % 7 == 0) {
                past.add(value);
                value = step + 1;
                x.set(1, 1, 1, value);
                if (past.size() > 4) {
                    past.remove(0);
                }
            } else if (!past.isEmpty()) {
                value = past.remove(past.size() - 1);
                DUE.is("undo()", x.undo(), past.size());
            }
            DUE.is("cell", x.cell(1, 1, 1), value);
            DUE.is("states", x.count(3), past.size());
        }
    }

    /** Promise 12: "Returns the number of states that are left". From 3 to 0. */
    private static void undoReturnsTheStatesThatAreLeft() {
        DUE.promise("promise 12, the states that are left");
        for (int states = 1; states <= 4; states++) {
            BlockRanks x = new BlockRanks();
            for (int i = 1; i <= states; i++) {
                x.set(3, 3, 3, i);
            }
            for (int left = states - 1; left >= 0; left--) {
                DUE.is("undo()", x.undo(), left);
            }
            DUE.is("none is left", x.undo(), BlockRanks.NONE);
        }
    }

    /** Promise 12: "NONE if the history is empty". At first, after refused calls, and after all states are undone. */
    private static void undoOfAnEmptyHistory() {
        DUE.promise("promise 12, the history is empty");
        BlockRanks x = new BlockRanks();
        DUE.is("at first", x.undo(), BlockRanks.NONE);
        x.setPrime(101);
        x.set(0, 0, 0, 101);
        x.keep();
        x.type('A');
        DUE.is("no act yet", x.undo(), BlockRanks.NONE);
        x.split(0, 0);
        x.split(0, 0);
        DUE.is("two acts", x.undo(), 1);
        DUE.is("one act", x.undo(), 0);
        DUE.is("empty again", x.undo(), BlockRanks.NONE);
        DUE.is("and once more", x.undo(), BlockRanks.NONE);
        DUE.is("leaves", x.table(0, 3), 1);
    }

    /** Promise 12: "Removes and restores the latest state of the history." */
    private static void undoRestoresTheLatest() {
        DUE.promise("promise 12, the latest state");
        BlockRanks x = new BlockRanks();
        x.set(0, 0, 0, 1);
        x.set(0, 0, 0, 2);
        x.set(0, 0, 0, 3);
        x.undo();
        DUE.is("the latest", x.cell(0, 0, 0), 2);
        x.undo();
        DUE.is("it is removed", x.cell(0, 0, 0), 1);
        x.set(0, 0, 0, 9);
        x.undo();
        DUE.is("an act after an undo", x.cell(0, 0, 0), 1);
        x.undo();
        DUE.is("the first one", x.cell(0, 0, 0), 0);
    }

    /** Promise 12, HISTORY: "undo() removes and restores the latest one." All tables, all trees and the prime. */
    private static void undoBringsBackCellsTreesAndPrime() {
        DUE.promise("promise 12, cells, trees and prime");
        Look.Steps before = x -> {
            prepare(x, 0);
            for (int table = 0; table < 4; table++) {
                x.set(table, 7 - table, table, 6);
                x.split(table, 0);
            }
        };
        undoes("setPrime(2)", before, x -> x.setPrime(2));
        undoes("restore()", before, BlockRanks::restore);
        for (int i = 0; i < 4; i++) {
            int table = i;
            undoes("set in " + table, before, x -> x.set(table, 4, 5, 3));
            undoes("split in " + table, before, x -> x.split(table, x.table(table, 3) - 1));
            undoes("recompress(" + table + ")", before, x -> x.recompress(table));
        }
    }

    private static void undoes(String name, Look.Steps before, Call act) {
        LOOK.sameNow(name + " and undo()", x -> {
            before.on(x);
            DUE.holds(name + " is neither an error nor NONE", act.on(x) >= 0);
            x.undo();
        }, before);
    }

    /** Promise 12, HISTORY: "A state is everything but the text, the history and the snapshot." The text. */
    private static void textIsNoPartOfAState() {
        DUE.promise("promise 12, everything but the text");
        BlockRanks x = new BlockRanks();
        x.set(0, 0, 0, 1);
        x.keep();
        x.set(0, 0, 0, 2);
        Due.write(x, "A=B");
        x.undo();
        DUE.is("undo: count(4)", x.count(4), 3);
        x.restore();
        DUE.is("restore: count(4)", x.count(4), 3);
        DUE.is("work()", x.work(), 0);
        x.clearText();
        x.undo();
        DUE.is("undo behind clearText: count(4)", x.count(4), 0);
        x.restore();
        DUE.is("restore behind clearText: count(4)", x.count(4), 0);
    }

    /** Promise 14, HISTORY: "A state is everything but the text, the history and the snapshot." The history. */
    private static void historyIsNoPartOfAState() {
        DUE.promise("promise 14, everything but the history");
        BlockRanks x = new BlockRanks();
        x.keep();
        x.set(0, 0, 0, 1);
        x.set(0, 0, 0, 2);
        x.restore();
        DUE.is("states", x.count(3), 3);
        x.undo();
        DUE.is("the state before restore()", x.cell(0, 0, 0), 2);
        x.undo();
        DUE.is("the one before that", x.cell(0, 0, 0), 1);
        x.undo();
        DUE.is("the first one", x.cell(0, 0, 0), 0);
        // A snapshot of a full history does not bring that history back.
        BlockRanks y = new BlockRanks();
        for (int i = 1; i <= 4; i++) {
            y.set(0, 0, 0, i);
        }
        y.keep();
        for (int i = 0; i < 4; i++) {
            y.undo();
        }
        y.restore();
        DUE.is("states", y.count(3), 1);
    }

    /** Promise 13, HISTORY: "A state is everything but the text, the history and the snapshot." The snapshot. */
    private static void snapshotIsNoPartOfAState() {
        DUE.promise("promise 13, everything but the snapshot");
        BlockRanks x = new BlockRanks();
        x.set(0, 0, 0, 1);
        x.keep();
        x.set(0, 0, 0, 2);
        x.keep();
        x.undo();
        DUE.is("undo()", x.cell(0, 0, 0), 1);
        x.restore();
        DUE.is("the later snapshot", x.cell(0, 0, 0), 2);
        x.undo();
        x.undo();
        DUE.is("before the first snapshot", x.cell(0, 0, 0), 0);
        DUE.is("there is one all the same", x.restore(), 101);
        DUE.is("the later one", x.cell(0, 0, 0), 2);
    }

    // ---- promises 13 and 14

    /** Promise 13: "Takes a snapshot of the state". Of all tables, all trees and the prime, whatever comes then. */
    private static void keepTakesTheState() {
        DUE.promise("promise 13, a snapshot of the state");
        Look.Steps kept = x -> {
            prepare(x, 2);
            x.set(1, 7, 0, 6);
            x.split(3, 0);
        };
        Look.Steps restored = x -> {
            kept.on(x);
            x.keep();
            x.setPrime(2);
            x.join(3, 0);
            x.recompress(0);
            Due.write(x, "C=A+D");
            x.work();
            x.restore();
        };
        LOOK.sameNow("keep() and restore()", restored, kept);
    }

    /** Promise 13: "Returns the prime." The first one, the least and the greatest one. */
    private static void keepReturnsThePrime() {
        DUE.promise("promise 13, the prime");
        BlockRanks x = new BlockRanks();
        DUE.is("at first", x.keep(), 101);
        x.setPrime(2);
        DUE.is("the least one", x.keep(), 2);
        x.setPrime(251);
        DUE.is("the greatest one", x.keep(), 251);
        x.undo();
        DUE.is("after undo()", x.keep(), 2);
    }

    /** Promise 13: "in place of the one that was." */
    private static void keepInPlaceOfTheOneThatWas() {
        DUE.promise("promise 13, in place of the one that was");
        BlockRanks x = new BlockRanks();
        x.set(0, 0, 0, 1);
        x.split(1, 0);
        x.keep();
        x.setPrime(3);
        x.set(0, 0, 0, 2);
        x.join(1, 0);
        x.keep();
        x.set(0, 0, 0, 0);
        DUE.is("the later prime", x.restore(), 3);
        DUE.is("the later cell", x.cell(0, 0, 0), 2);
        DUE.is("the later tree", x.table(1, 3), 1);
    }

    /** Promise 14: "Returns the prime then". That of the snapshot, not the one that was. */
    private static void restoreReturnsThePrimeThen() {
        DUE.promise("promise 14, the prime then");
        BlockRanks x = new BlockRanks();
        x.setPrime(2);
        x.keep();
        x.setPrime(251);
        DUE.is("the least one", x.restore(), 2);
        DUE.is("count(0)", x.count(0), 2);
        DUE.is("the same prime", x.restore(), 2);
        x.setPrime(251);
        x.keep();
        x.setPrime(101);
        DUE.is("the greatest one", x.restore(), 251);
    }

    /** Promise 14, HISTORY: "There is one snapshot, empty at first." Not the state at first, and not two. */
    private static void oneSnapshotThatIsEmptyAtFirst() {
        DUE.promise("promise 14, one snapshot, empty at first");
        BlockRanks x = new BlockRanks();
        x.set(3, 3, 3, 3);
        DUE.is("empty", x.restore(), BlockRanks.NONE);
        DUE.is("the cell", x.cell(3, 3, 3), 3);
        for (int i = 4; i < 9; i++) {
            x.set(3, 3, 3, i);
            x.keep();
        }
        x.set(3, 3, 3, 0);
        DUE.is("the only one", x.restore(), 101);
        DUE.is("the cell", x.cell(3, 3, 3), 8);
        DUE.is("the only one again", x.restore(), 101);
        DUE.is("the cell again", x.cell(3, 3, 3), 8);
    }

    /** Promise 14: "NONE if there is no snapshot". At first, after acts, and after undo(). */
    private static void restoreWithoutASnapshot() {
        DUE.promise("promise 14, there is no snapshot");
        BlockRanks x = new BlockRanks();
        DUE.is("at first", x.restore(), BlockRanks.NONE);
        x.set(0, 0, 0, 5);
        x.setPrime(7);
        DUE.is("after acts", x.restore(), BlockRanks.NONE);
        DUE.is("the prime", x.count(0), 7);
        DUE.is("the cell", x.cell(0, 0, 0), 5);
        x.undo();
        DUE.is("after undo()", x.restore(), BlockRanks.NONE);
        x.keep();
        DUE.is("after keep()", x.restore(), 101);
    }

    /** Promise 14: "Restores the state of the snapshot, which stays." */
    private static void theSnapshotStays() {
        DUE.promise("promise 14, the snapshot stays");
        BlockRanks x = new BlockRanks();
        x.set(0, 0, 0, 5);
        x.split(2, 0);
        x.keep();
        for (int i = 0; i < 6; i++) {
            x.set(0, 0, 0, 10 + i);
            x.split(2, i % 4);
            DUE.is("restore()", x.restore(), 101);
            DUE.is("the cell", x.cell(0, 0, 0), 5);
            DUE.is("the tree", x.table(2, 3), 4);
        }
    }
}
