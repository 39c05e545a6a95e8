/** Promises 23, 24 and 25: tightIn, cellsIf, bestSide. */
public final class WhatIfTest {
    private WhatIfTest() {
    }

    public static void main(String[] args) {
        tightIn();
        cellsIf();
        wrongCellsIf();
        bestSide();
        wrongBestSide();
        nothingChanges();
        Expect.end();
    }

    private static DockTree sample() {
        DockTree x = Expect.with(10, 6, 20, 7, 30, 8, 15, 9);
        x.dockAtEdge(0, DockTree.LEFT);
        x.dock(1, 0, DockTree.RIGHT);
        x.dock(2, 1, DockTree.BELOW);
        return x;
    }

    private static void tightIn() {
        DockTree x = sample();
        // Least: 10 + 30 columns, 8 + 9 rows, and a divider each.
        Expect.due("tightIn(41, 18)", x.tightIn(41, 20), 1);
        Expect.due("tightIn(42, 20)", x.tightIn(42, 20), 0);
        x.setLeast(1, 20, 9);
        x.setLeast(2, 30, 9);
        Expect.due("tightIn(41, 21)", x.tightIn(41, 21), 2);
        Expect.due("tightIn(42, 21)", x.tightIn(42, 21), 1);
        Expect.due("tightIn(42, 22)", x.tightIn(42, 22), 0);
        Expect.due("tightIn(20, 400)", x.tightIn(20, 400), 1);
        Expect.due("tightIn(400, 20)", x.tightIn(400, 20), 1);
        Expect.due("tightIn without a tree", new DockTree().tightIn(20, 20), 0);
        Expect.badArgument("tightIn(19, 20)", x, () -> x.tightIn(19, 20));
        Expect.badArgument("tightIn(401, 20)", x, () -> x.tightIn(401, 20));
        Expect.badArgument("tightIn(20, 19)", x, () -> x.tightIn(20, 19));
        Expect.badArgument("tightIn(20, 401)", x, () -> x.tightIn(20, 401));
    }

    private static void cellsIf() {
        DockTree x = sample();
        // 98 columns by three, 33, 33, 32: pane 3 is the second one, with 59 rows below its tabs.
        Expect.due("cellsIf(3, 0, RIGHT)", x.cellsIf(3, 0, DockTree.RIGHT), 33 * 59);
        // 50 columns, 59 rows by two, 30 and 29.
        Expect.due("cellsIf(3, 0, ABOVE)", x.cellsIf(3, 0, DockTree.ABOVE), 50 * 29);
        Expect.due("cellsIf(3, 0, BELOW)", x.cellsIf(3, 0, DockTree.BELOW), 50 * 28);
        Expect.due("cellsIf(3, 0, TAB)", x.cellsIf(3, 0, DockTree.TAB), 50 * 59);
        // Without pane 0, panes 1 and 2 have the window.
        Expect.due("cellsIf(0, 1, TAB)", x.cellsIf(0, 1, DockTree.TAB), 100 * 29);
        Expect.due("cellsIf(0, 2, BELOW)", x.cellsIf(0, 2, DockTree.BELOW), 100 * 18);
        x.floatAt(3, 399, 0, 400, 400);
        Expect.due("cellsIf(0, 3, TAB) at a floating pane", x.cellsIf(0, 3, DockTree.TAB), 400 * 399);
        x.floatAt(3, 0, 0, 50, 1);
        Expect.due("cellsIf(0, 3, TAB) at tabs alone", x.cellsIf(0, 3, DockTree.TAB), 0);
    }

    private static void wrongCellsIf() {
        DockTree x = Expect.with(1, 1, 1, 1, 1, 1);
        x.dockAtEdge(0, DockTree.LEFT);
        x.floatAt(1, 0, 0, 5, 5);
        Expect.outOfBounds("cellsIf(3, 3, 9)", x, () -> x.cellsIf(3, 3, 9));
        Expect.outOfBounds("cellsIf(-1, 0, 0)", x, () -> x.cellsIf(-1, 0, 0));
        Expect.outOfBounds("cellsIf(0, -1, 9)", x, () -> x.cellsIf(0, -1, 9));
        Expect.outOfBounds("cellsIf(0, 3, 0)", x, () -> x.cellsIf(0, 3, 0));
        Expect.badArgument("cellsIf(2, 2, 0)", x, () -> x.cellsIf(2, 2, 0));
        Expect.badArgument("cellsIf(0, 2, 5)", x, () -> x.cellsIf(0, 2, 5));
        Expect.badArgument("cellsIf(0, 2, -1)", x, () -> x.cellsIf(0, 2, -1));
        Expect.badState("cellsIf(0, 2, TAB)", x, () -> x.cellsIf(0, 2, DockTree.TAB));
        Expect.badState("cellsIf(0, 1, BELOW)", x, () -> x.cellsIf(0, 1, DockTree.BELOW));
    }

    private static void bestSide() {
        DockTree x = Expect.with(1, 1, 1, 1, 1, 1);
        x.dockAtEdge(0, DockTree.LEFT);
        // Left 50 * 59, right 49 * 59, above 100 * 29, below 100 * 28.
        Expect.due("bestSide(1, 0)", x.bestSide(1, 0), DockTree.LEFT);
        x.setWindow(21, 60);
        // Left 10 * 59, right 10 * 59, above 21 * 29, below 21 * 28.
        Expect.due("bestSide(1, 0) in a narrow window", x.bestSide(1, 0), DockTree.ABOVE);
        x.setWindow(21, 22);
        x.setLeast(0, 16, 1);
        x.setLeast(1, 1, 14);
        // Left and right 4 * 21; above and below 15 - 1 rows of 21.
        Expect.due("bestSide(1, 0) of several", x.bestSide(1, 0), DockTree.ABOVE);
        x.setLeast(1, 1, 1);
        x.setLeast(0, 1, 18);
        // Above and below 2 - 1 rows of 21; left and right 10 * 21.
        Expect.due("bestSide(1, 0) of two", x.bestSide(1, 0), DockTree.LEFT);
        x.setWindow(100, 60);
        x.dock(1, 0, DockTree.RIGHT);
        // Pane 2 beside pane 0: 33 columns, 59 rows; right of pane 1 32 columns; above pane 0 50 * 29.
        Expect.due("bestSide(2, 1)", x.bestSide(2, 1), DockTree.LEFT);
        x.setShare(1, 1000000);
        // 98 columns by 1, 1000000, 1000000: left and right 48; above and below 98 of them.
        Expect.due("bestSide(2, 1) of a great one", x.bestSide(2, 1), DockTree.LEFT);
        x.setShare(1, 1);
        x.setShare(0, 1000000);
        // Left and right 1 * 59; above 1 * 29, below 1 * 28.
        Expect.due("bestSide(2, 1) of a small one", x.bestSide(2, 1), DockTree.LEFT);
        x.setLeast(1, 40, 1);
        // Left and right 1 * 59; above 40 * 29, below 40 * 28.
        Expect.due("bestSide(2, 1) of a wide one", x.bestSide(2, 1), DockTree.ABOVE);
        x.setLeast(1, 1, 1);
        x.setLeast(2, 1, 60);
        // Left and right 1 * 59; above and below are tight: 59 rows by 61 and 2, so 58 - 1 and 57 - 1 of 1 column.
        Expect.due("bestSide(2, 1) of a high one", x.bestSide(2, 1), DockTree.LEFT);
    }

    private static void wrongBestSide() {
        DockTree x = Expect.with(1, 1, 1, 1, 1, 1);
        x.dockAtEdge(0, DockTree.LEFT);
        x.floatAt(1, 0, 0, 5, 5);
        Expect.outOfBounds("bestSide(3, 3)", x, () -> x.bestSide(3, 3));
        Expect.outOfBounds("bestSide(-1, 0)", x, () -> x.bestSide(-1, 0));
        Expect.outOfBounds("bestSide(0, -1)", x, () -> x.bestSide(0, -1));
        Expect.outOfBounds("bestSide(0, 3)", x, () -> x.bestSide(0, 3));
        Expect.badArgument("bestSide(2, 2)", x, () -> x.bestSide(2, 2));
        Expect.badState("bestSide(0, 1) of a floating pane", x, () -> x.bestSide(0, 1));
        Expect.badState("bestSide(0, 2) of a closed pane", x, () -> x.bestSide(0, 2));
    }

    private static void nothingChanges() {
        DockTree x = sample();
        long before = x.digest();
        x.tightIn(20, 20);
        x.cellsIf(0, 2, DockTree.LEFT);
        x.cellsIf(3, 2, DockTree.TAB);
        x.bestSide(2, 0);
        Expect.due("digest() behind questions", x.digest(), before);
        Expect.due("undo() behind questions", x.undo(), 3);
    }
}
