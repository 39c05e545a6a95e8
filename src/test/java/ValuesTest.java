/** Promises 16, 17, 18, 20, 21 and 22: pane, split, paneAt, group, floating, whole. */
public final class ValuesTest {
    private ValuesTest() {
    }

    public static void main(String[] args) {
        pane();
        wrongPane();
        split();
        wrongSplit();
        paneAt();
        paneAtFloating();
        paneAtWithoutCells();
        groups();
        floating();
        whole();
        Expect.end();
    }

    /** Panes 0 and 3 (tabs) beside panes 1 above 2; pane 4 floats, pane 5 is closed. */
    private static DockTree sample() {
        DockTree x = Expect.with(10, 6, 20, 7, 30, 8, 15, 9, 40, 50, 1, 2);
        x.dockAtEdge(0, DockTree.LEFT);
        x.dock(1, 0, DockTree.RIGHT);
        x.dock(2, 1, DockTree.BELOW);
        x.dock(3, 0, DockTree.TAB);
        x.floatAt(4, 90, 50, 30, 20);
        return x;
    }

    private static void values(DockTree x, int pane, int... values) {
        for (int what = 0; what <= 11; what++) {
            Expect.due("pane(" + pane + ", " + what + ")", x.pane(pane, what), values[what]);
        }
    }

    private static void pane() {
        DockTree x = sample();
        x.setShare(0, 2);
        // 99 columns by the weights 2 and 1; 59 rows by 1 and 1.
        values(x, 0, 10, 6, 1, 0, 1, 66, 59, 0, 0, 2, 2, 1);
        values(x, 1, 20, 7, 1, 67, 1, 33, 29, 1, 0, 1, 1, 2);
        values(x, 2, 30, 8, 1, 67, 32, 33, 28, 1, 0, 1, 1, 2);
        values(x, 3, 15, 9, 1, 0, 1, 66, 59, 1, 1, 2, 2, 1);
        values(x, 4, 40, 50, 2, 90, 51, 30, 19, 1, 0, 1, -1, 0);
        values(x, 5, 1, 2, 0, -1, -1, -1, -1, -1, -1, -1, -1, -1);
    }

    private static void wrongPane() {
        DockTree x = sample();
        Expect.outOfBounds("pane(6, -1)", x, () -> x.pane(6, -1));
        Expect.outOfBounds("pane(-1, 0)", x, () -> x.pane(-1, 0));
        Expect.badArgument("pane(0, -1)", x, () -> x.pane(0, -1));
        Expect.badArgument("pane(0, 12)", x, () -> x.pane(0, 12));
        Expect.badArgument("pane(5, 12) of a closed pane", x, () -> x.pane(5, 12));
    }

    private static void splitValues(DockTree x, int pane, int level, int... values) {
        for (int what = 0; what <= 7; what++) {
            Expect.due("split(" + pane + ", " + level + ", " + what + ")", x.split(pane, level, what), values[what]);
        }
    }

    private static void split() {
        DockTree x = sample();
        // Least sizes: group of 0 and 3: 15, 10; split of 1 and 2: 30, 8 + 9 + 1; both: 15 + 30 + 1, 18.
        splitValues(x, 0, 0, 0, 2, 0, 46, 18, 100, 60, 0);
        splitValues(x, 3, 0, 0, 2, 0, 46, 18, 100, 60, 0);
        splitValues(x, 0, 1, -1, -1, -1, -1, -1, -1, -1, -1);
        splitValues(x, 1, 0, 1, 2, 0, 30, 18, 49, 60, 0);
        splitValues(x, 2, 0, 1, 2, 1, 30, 18, 49, 60, 0);
        splitValues(x, 2, 1, 0, 2, 1, 46, 18, 100, 60, 0);
        splitValues(x, 2, 2, -1, -1, -1, -1, -1, -1, -1, -1);
        splitValues(x, 4, 0, -1, -1, -1, -1, -1, -1, -1, -1);
        splitValues(x, 5, 0, -1, -1, -1, -1, -1, -1, -1, -1);
        x.setWindow(46, 20);
        // 45 cells for 15 and 30 are tight; 19 rows for 17 are not.
        splitValues(x, 2, 1, 0, 2, 1, 46, 18, 46, 20, 1);
        splitValues(x, 2, 0, 1, 2, 1, 30, 18, 30, 20, 0);
    }

    private static void wrongSplit() {
        DockTree x = sample();
        Expect.outOfBounds("split(6, -1, 9)", x, () -> x.split(6, -1, 9));
        Expect.outOfBounds("split(-1, 0, 0)", x, () -> x.split(-1, 0, 0));
        Expect.badArgument("split(0, -1, 0)", x, () -> x.split(0, -1, 0));
        Expect.badArgument("split(0, 0, -1)", x, () -> x.split(0, 0, -1));
        Expect.badArgument("split(0, 0, 8)", x, () -> x.split(0, 0, 8));
        Expect.badArgument("split(0, 9, 8) without such a split", x, () -> x.split(0, 9, 8));
        Expect.badArgument("split(5, -1, 0) of a closed pane", x, () -> x.split(5, -1, 0));
        Expect.due("split(0, 2147483647, 0)", x.split(0, Integer.MAX_VALUE, 0), DockTree.NONE);
    }

    private static void paneAt() {
        DockTree x = sample();
        x.close(4);
        // Columns 0 to 49, the divider 50, 51 to 99; rows 0 to 29, the divider 30, 31 to 59.
        Expect.due("paneAt(0, 0) on the tabs", x.paneAt(0, 0), 3);
        Expect.due("paneAt(49, 59)", x.paneAt(49, 59), 3);
        Expect.due("paneAt(50, 0) on a divider", x.paneAt(50, 0), DockTree.NONE);
        Expect.due("paneAt(50, 30) on a divider", x.paneAt(50, 30), DockTree.NONE);
        Expect.due("paneAt(51, 0)", x.paneAt(51, 0), 1);
        Expect.due("paneAt(99, 29)", x.paneAt(99, 29), 1);
        Expect.due("paneAt(99, 30) on a divider", x.paneAt(99, 30), DockTree.NONE);
        Expect.due("paneAt(51, 31)", x.paneAt(51, 31), 2);
        Expect.due("paneAt(99, 59)", x.paneAt(99, 59), 2);
        x.activate(0);
        Expect.due("paneAt(0, 0) with pane 0 active", x.paneAt(0, 0), 0);
        Expect.outOfBounds("paneAt(-1, 0)", x, () -> x.paneAt(-1, 0));
        Expect.outOfBounds("paneAt(0, -1)", x, () -> x.paneAt(0, -1));
        Expect.outOfBounds("paneAt(100, 0)", x, () -> x.paneAt(100, 0));
        Expect.outOfBounds("paneAt(0, 60)", x, () -> x.paneAt(0, 60));
    }

    private static void paneAtFloating() {
        DockTree x = sample();
        // Pane 4 reaches beyond the window, from (90, 50) on.
        Expect.due("paneAt(99, 59)", x.paneAt(99, 59), 4);
        Expect.due("paneAt(90, 50) on the tabs", x.paneAt(90, 50), 4);
        Expect.due("paneAt(89, 50)", x.paneAt(89, 50), 2);
        Expect.due("paneAt(90, 49)", x.paneAt(90, 49), 2);
        Expect.outOfBounds("paneAt(100, 55) beyond the window", x, () -> x.paneAt(100, 55));
        x.floatAt(5, 40, 25, 60, 26);
        Expect.due("paneAt(95, 50) below both", x.paneAt(95, 50), 5);
        Expect.due("paneAt(95, 51)", x.paneAt(95, 51), 4);
        Expect.due("paneAt(50, 30) on a divider below", x.paneAt(50, 30), 5);
        x.raise(4);
        Expect.due("paneAt(95, 50) behind raise", x.paneAt(95, 50), 4);
        Expect.due("paneAt(94, 25)", x.paneAt(94, 25), 5);
    }

    // The dividers of a split without cells can lie on the box of another group.
    private static void paneAtWithoutCells() {
        DockTree x = Expect.with(1, 1, 1, 1, 1, 1, 1, 1, 1, 1, 60, 1, 60, 1, 60, 1, 60, 1);
        x.dockAtEdge(0, DockTree.LEFT);
        for (int pane = 5; pane <= 8; pane++) {
            x.dockAtEdge(pane, DockTree.RIGHT);
        }
        x.dock(1, 0, DockTree.BELOW);
        x.dock(2, 1, DockTree.RIGHT);
        x.dock(3, 2, DockTree.RIGHT);
        x.dock(4, 3, DockTree.RIGHT);
        x.setWindow(20, 20);
        // Least widths 7, 60, 60, 60, 60 for 16 cells: 0, 3, 3, 3, 3 and the 4 left over: 1, 4, 4, 4, 3.
        Expect.box(x, 0, 0, 1, 1, 9);
        Expect.box(x, 5, 2, 1, 4, 19);
        // Below pane 0 there is 1 column for 3 dividers: they lie in the columns 0, 1 and 2.
        for (int pane = 1; pane <= 4; pane++) {
            Expect.box(x, pane, pane - 1, 12, 0, 8);
        }
        Expect.due("paneAt(0, 0)", x.paneAt(0, 0), 0);
        Expect.due("paneAt(0, 10) on the divider below pane 0", x.paneAt(0, 10), DockTree.NONE);
        Expect.due("paneAt(0, 15) on a divider in its split", x.paneAt(0, 15), DockTree.NONE);
        Expect.due("paneAt(1, 15) on a divider beside its split", x.paneAt(1, 15), DockTree.NONE);
        Expect.due("paneAt(2, 15) in a box on which a divider lies", x.paneAt(2, 15), 5);
        Expect.due("paneAt(19, 15)", x.paneAt(19, 15), 8);
    }

    private static void groups() {
        DockTree x = sample();
        Expect.groups(x, 3, 1, 2);
        x.dock(5, 1, DockTree.LEFT);
        Expect.groups(x, 3, 5, 1, 2);
        x.dockAtEdge(4, DockTree.BELOW);
        Expect.groups(x, 3, 5, 1, 2, 4);
        Expect.due("group(2147483647)", x.group(Integer.MAX_VALUE), DockTree.NONE);
        Expect.badArgument("group(-1)", x, () -> x.group(-1));
    }

    private static void floating() {
        DockTree x = sample();
        Expect.floating(x, 4);
        x.floatAt(1, 0, 0, 1, 1);
        x.dock(5, 4, DockTree.TAB);
        Expect.floating(x, 5, 1);
        Expect.due("floating(2147483647)", x.floating(Integer.MAX_VALUE), DockTree.NONE);
        Expect.badArgument("floating(-1)", x, () -> x.floating(-1));
    }

    private static void whole() {
        DockTree x = sample();
        // Dividers: 1 of 60 cells and 1 of 49 cells.
        int[] values = {100, 60, 6, 4, 1, 3, 2, 1, 46, 18, 0, 109};
        for (int what = 0; what <= 11; what++) {
            Expect.due("whole(" + what + ")", x.whole(what), values[what]);
        }
        x.setWindow(46, 20);
        Expect.due("tight splits", x.whole(10), 1);
        Expect.due("cells of dividers", x.whole(11), 50);
        x.close(0);
        x.close(3);
        x.close(1);
        x.close(2);
        int[] without = {46, 20, 6, 0, 1, 0, 0, 1, 0, 0, 0, 0};
        for (int what = 0; what <= 11; what++) {
            Expect.due("whole(" + what + ") without a tree", x.whole(what), without[what]);
        }
        Expect.badArgument("whole(-1)", x, () -> x.whole(-1));
        Expect.badArgument("whole(12)", x, () -> x.whole(12));
    }
}
