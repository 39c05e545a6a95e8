/** Promises 12 and 13: setShare, drag; and the sharing of cells that they rest upon. */
public final class SharingTest {
    private SharingTest() {
    }

    public static void main(String[] args) {
        equalWeights();
        leastSizesInRounds();
        tightOrNot();
        tightWithoutCells();
        setShare();
        greatestWeights();
        drag();
        dragToTheEdge();
        dragAboveSplits();
        wrongDrag();
        Expect.end();
    }

    private static void widths(DockTree x, int... widths) {
        int column = 0;
        for (int k = 0; k < widths.length; k++) {
            Expect.due("width of pane " + k, x.pane(k, 5), widths[k]);
            Expect.due("column of pane " + k, x.pane(k, 3), column);
            column += widths[k] + 1;
        }
    }

    private static void equalWeights() {
        DockTree x = Expect.row(1, 1, 1);
        // 98 cells, 2 of them left over.
        widths(x, 33, 33, 32);
        x.setWindow(20, 60);
        widths(x, 6, 6, 6);
        x.setWindow(21, 60);
        widths(x, 7, 6, 6);
    }

    private static void leastSizesInRounds() {
        // 98 cells, 32 each: pane 0 gets 50; then 24 each of 48: pane 1 gets 26.
        widths(Expect.row(50, 26, 5), 50, 26, 22);
        widths(Expect.row(5, 26, 50), 22, 26, 50);
        // Two of one round: 24 each of 97, so 30 and 40; the rest of 27 goes to two.
        widths(Expect.row(1, 30, 40, 1), 14, 30, 40, 13);
        // The cells that are left over go to the free ones alone: 98 - 34 = 64, and 98 - 33 = 65.
        widths(Expect.row(34, 1, 1), 34, 32, 32);
        widths(Expect.row(33, 1, 1), 33, 33, 32);
        // Who gets just its least size stays free, and gets one of the 2 cells that are left over.
        widths(Expect.row(32, 1, 1), 33, 33, 32);
    }

    private static void tightOrNot() {
        DockTree x = Expect.row(10, 9);
        x.setWindow(20, 20);
        Expect.due("19 cells for 19 are tight", x.split(0, 0, 7), 1);
        widths(x, 10, 9);
        x.setLeast(1, 8, 1);
        Expect.due("19 cells for 18 are not tight", x.split(0, 0, 7), 0);
        widths(x, 10, 9);
        x.setLeast(0, 8, 1);
        widths(x, 10, 9);
        x.setLeast(0, 60, 1);
        // 19 * 60 / 68 = 16.8, 19 * 8 / 68 = 2.2; the one that is left goes to the first.
        widths(x, 17, 2);
        DockTree y = Expect.row(60, 30, 20);
        y.setWindow(20, 20);
        widths(y, 10, 5, 3);
        // Weights do not count in a tight split.
        y.setShare(2, 1000000);
        widths(y, 10, 5, 3);
    }

    private static void tightWithoutCells() {
        DockTree x = Expect.row(60, 60, 60, 60, 1);
        x.addPane(1, 1);
        x.addPane(1, 1);
        x.addPane(1, 1);
        x.dock(5, 4, DockTree.BELOW);
        x.dock(6, 5, DockTree.RIGHT);
        x.dock(7, 6, DockTree.RIGHT);
        x.setWindow(20, 60);
        // Least widths 60, 60, 60, 60 and 5 of 16 cells: 3, 3, 3, 3, 0, and the 4 left over.
        widths(x, 4, 4, 4, 4, 0);
        Expect.box(x, 4, 20, 1, 0, 29);
        // A split without a cell: children without cells, behind dividers.
        Expect.box(x, 5, 20, 32, 0, 28);
        Expect.box(x, 6, 21, 32, 0, 28);
        Expect.box(x, 7, 22, 32, 0, 28);
        Expect.due("tight splits", x.whole(10), 2);
        // Dividers: 4 of 60 cells, 1 of 0 cells, 2 of 29 cells.
        Expect.due("cells of dividers", x.whole(11), 298);
    }

    private static void setShare() {
        DockTree x = Expect.row(10, 30, 5);
        Expect.due("setShare(0, 3)", x.setShare(0, 3), 1);
        // 98 cells: 58, 19, 19, so pane 1 gets 30; then 68 by 3 and 1.
        widths(x, 51, 30, 17);
        Expect.due("setShare(0, 1000000)", x.setShare(0, 1000000), 3);
        widths(x, 63, 30, 5);
        Expect.due("setShare(0, 1)", x.setShare(0, 1), 1000000);
        x.undo();
        Expect.due("weight behind undo", x.pane(0, 10), 1000000);
        x.addPane(1, 1);
        x.addPane(1, 1);
        x.floatAt(3, 0, 0, 5, 5);
        x.dock(4, 0, DockTree.TAB);
        Expect.due("setShare(4, 6) of a tab", x.setShare(4, 6), 1000000);
        Expect.due("weight of the group", x.pane(0, 10), 6);
        Expect.outOfBounds("setShare(5, 0)", x, () -> x.setShare(5, 0));
        Expect.outOfBounds("setShare(-1, 1)", x, () -> x.setShare(-1, 1));
        Expect.badArgument("setShare(0, 0)", x, () -> x.setShare(0, 0));
        Expect.badArgument("setShare(0, 1000001)", x, () -> x.setShare(0, 1000001));
        Expect.badArgument("setShare(3, 0) of a floating pane", x, () -> x.setShare(3, 0));
        Expect.badState("setShare(3, 1) of a floating pane", x, () -> x.setShare(3, 1));
        x.close(4);
        Expect.badState("setShare(4, 1) of a closed pane", x, () -> x.setShare(4, 1));
        x.close(1);
        x.close(2);
        Expect.badState("setShare(0, 1) of the root", x, () -> x.setShare(0, 1));
        Expect.badArgument("setShare(0, 0) of the root", x, () -> x.setShare(0, 0));
    }

    private static void greatestWeights() {
        DockTree x = Expect.row(1, 1, 1, 1, 1, 1, 1, 1, 1, 1, 1, 1, 1, 1, 1, 1);
        x.setWindow(400, 20);
        for (int k = 0; k < 16; k++) {
            x.setShare(k, 1000000);
        }
        // 385 cells: 24 each, and one that is left.
        Expect.due("width of pane 0", x.pane(0, 5), 25);
        Expect.due("width of pane 1", x.pane(1, 5), 24);
        Expect.due("column of pane 15", x.pane(15, 3), 376);
        Expect.due("width of pane 15", x.pane(15, 5), 24);
    }

    private static void drag() {
        DockTree x = Expect.row(10, 30, 5);
        x.setShare(0, 3);
        Expect.due("drag(0, -20)", x.drag(0, -20), 31);
        // 31, 30, 17 and then 20 to the next one: the weights are the cells.
        widths(x, 31, 50, 17);
        Expect.due("weight of pane 0", x.pane(0, 10), 31);
        Expect.due("weight of pane 1", x.pane(1, 10), 50);
        Expect.due("weight of pane 2", x.pane(2, 10), 17);
        Expect.due("drag(1, 12)", x.drag(1, 12), 62);
        widths(x, 31, 62, 5);
        x.undo();
        widths(x, 31, 50, 17);
        Expect.due("drag(0, 0)", x.drag(0, 0), 31);
        x.setShare(2, 1);
        x.drag(0, 0);
        Expect.due("weight of pane 2 behind a drag of 0", x.pane(2, 10), 5);
    }

    private static void dragToTheEdge() {
        DockTree x = Expect.row(10, 30, 5);
        // 33, 33, 32 cells: 23 can go to the right, 3 to the left.
        Expect.badState("drag(0, -24)", x, () -> x.drag(0, -24));
        Expect.badState("drag(0, 4)", x, () -> x.drag(0, 4));
        Expect.badState("drag(0, 400)", x, () -> x.drag(0, 400));
        Expect.badState("drag(0, -400)", x, () -> x.drag(0, -400));
        Expect.due("drag(0, 3)", x.drag(0, 3), 36);
        Expect.due("drag(0, -26)", x.drag(0, -26), 10);
        widths(x, 10, 56, 32);
    }

    private static void dragAboveSplits() {
        DockTree x = Expect.with(1, 4, 1, 6, 1, 6);
        x.dockAtEdge(0, DockTree.ABOVE);
        x.dockAtEdge(1, DockTree.BELOW);
        x.dock(2, 1, DockTree.RIGHT);
        // 59 rows, 30 and 29; the next child is a split that needs 7.
        Expect.badState("drag(0, 23)", x, () -> x.drag(0, 23));
        Expect.due("drag(0, 22)", x.drag(0, 22), 52);
        Expect.due("height of pane 2", x.pane(2, 6), 6);
        Expect.badState("drag(0, -48)", x, () -> x.drag(0, -48));
        Expect.due("drag(0, -47) leaves 5, for 4 and the tabs", x.drag(0, -47), 5);
        Expect.due("drag(1, 10) in the lower split", x.drag(1, 10), 60);
        Expect.box(x, 2, 61, 7, 39, 53);
    }

    private static void wrongDrag() {
        DockTree x = Expect.row(10, 30, 5);
        x.addPane(1, 1);
        Expect.outOfBounds("drag(4, 401)", x, () -> x.drag(4, 401));
        Expect.outOfBounds("drag(-1, 0)", x, () -> x.drag(-1, 0));
        Expect.badArgument("drag(0, 401)", x, () -> x.drag(0, 401));
        Expect.badArgument("drag(0, -401)", x, () -> x.drag(0, -401));
        Expect.badArgument("drag(3, 401) of a closed pane", x, () -> x.drag(3, 401));
        Expect.badState("drag(3, 0) of a closed pane", x, () -> x.drag(3, 0));
        Expect.badState("drag(2, 0) of the last child", x, () -> x.drag(2, 0));
        Expect.badState("drag(2, -1) of the last child", x, () -> x.drag(2, -1));
        x.floatAt(3, 0, 0, 5, 5);
        Expect.badState("drag(3, 0) of a floating pane", x, () -> x.drag(3, 0));
        x.setWindow(47, 60);
        Expect.badState("drag(0, 0) in a tight split", x, () -> x.drag(0, 0));
        x.setWindow(48, 60);
        Expect.due("drag(0, 0) with one cell to spare", x.drag(0, 0), 10);
        x.close(1);
        x.close(2);
        Expect.badState("drag(0, 0) of the root", x, () -> x.drag(0, 0));
    }
}
