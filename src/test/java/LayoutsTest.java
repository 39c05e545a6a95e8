/** Promises 14 and 15: save, bringBack. */
public final class LayoutsTest {
    private LayoutsTest() {
    }

    public static void main(String[] args) {
        save();
        bringBack();
        notTheSizes();
        emptyLayout();
        keptApart();
        Expect.end();
    }

    private static void save() {
        DockTree x = Expect.with(1, 1);
        Expect.due("save(0)", x.save(0), 0);
        Expect.due("save(3)", x.save(3), 0);
        Expect.due("save(0) again", x.save(0), 1);
        Expect.badArgument("save(-1)", x, () -> x.save(-1));
        Expect.badArgument("save(4)", x, () -> x.save(4));
        x.undo();
        x.undo();
        Expect.due("save(3) behind undo", x.save(3), 0);
        x.undo();
        x.undo();
        Expect.badState("bringBack(0) behind undo", x, () -> x.bringBack(0));
    }

    private static void bringBack() {
        DockTree x = Expect.with(1, 1, 1, 1, 1, 1, 1, 1, 1, 1);
        x.dockAtEdge(0, DockTree.LEFT);
        x.dock(1, 0, DockTree.RIGHT);
        x.dock(2, 0, DockTree.TAB);
        x.activate(0);
        x.setShare(0, 8);
        x.floatAt(3, 1, 2, 30, 40);
        x.floatAt(4, 5, 6, 7, 8);
        x.raise(3);
        long before = valuesOf(x);
        x.save(2);
        x.dock(1, 2, DockTree.BELOW);
        x.moveTab(0, 1);
        x.setShare(1, 77);
        x.dock(3, 2, DockTree.ABOVE);
        x.floatAt(4, 50, 50, 50, 50);
        x.addPane(1, 1);
        x.dockAtEdge(5, DockTree.LEFT);
        Expect.due("bringBack(2)", x.bringBack(2), 5);
        Expect.due("values behind bringBack", valuesOf(x), before);
        Expect.due("weight", x.pane(0, 10), 8);
        Expect.tabs(x, 0, 0, 0, 2);
        Expect.floating(x, 4, 3);
        Expect.box(x, 3, 1, 3, 30, 39);
        Expect.due("a pane that was added since", x.pane(5, 2), DockTree.CLOSED);
        x.undo();
        Expect.due("the added pane behind undo", x.pane(5, 2), DockTree.DOCKED);
        Expect.badArgument("bringBack(-1)", x, () -> x.bringBack(-1));
        Expect.badArgument("bringBack(4)", x, () -> x.bringBack(4));
        Expect.badState("bringBack(1)", x, () -> x.bringBack(1));
    }

    /** A hash of what the first five panes tell. */
    private static long valuesOf(DockTree x) {
        long h = 1;
        for (int pane = 0; pane < 5; pane++) {
            for (int what = 0; what <= 11; what++) {
                h = 31 * h + x.pane(pane, what);
            }
        }
        return h;
    }

    private static void notTheSizes() {
        DockTree x = Expect.with(5, 5, 5, 5);
        x.dockAtEdge(0, DockTree.LEFT);
        x.save(0);
        x.setWindow(50, 40);
        x.setLeast(0, 33, 22);
        x.dock(1, 0, DockTree.LEFT);
        Expect.due("bringBack(0)", x.bringBack(0), 1);
        Expect.box(x, 0, 0, 1, 50, 39);
        Expect.due("least width", x.pane(0, 0), 33);
        Expect.due("a pane that was closed", x.pane(1, 2), DockTree.CLOSED);
    }

    private static void emptyLayout() {
        DockTree x = Expect.with(5, 5, 5, 5);
        x.save(1);
        x.dockAtEdge(0, DockTree.LEFT);
        x.floatAt(1, 0, 0, 5, 5);
        Expect.due("bringBack(1)", x.bringBack(1), 0);
        Expect.groups(x);
        Expect.floating(x);
        Expect.due("dockAtEdge into nothing", x.dockAtEdge(1, DockTree.LEFT), 1);
    }

    // What happens behind save and bringBack does not reach the layout.
    private static void keptApart() {
        DockTree x = Expect.with(5, 5, 5, 5, 5, 5);
        x.dockAtEdge(0, DockTree.LEFT);
        x.dock(1, 0, DockTree.RIGHT);
        x.save(0);
        x.save(1);
        x.dock(2, 0, DockTree.TAB);
        x.save(1);
        x.bringBack(0);
        Expect.groups(x, 0, 1);
        x.dock(2, 1, DockTree.TAB);
        x.close(0);
        Expect.due("bringBack(0)", x.bringBack(0), 2);
        Expect.groups(x, 0, 1);
        Expect.tabs(x, 1, 1, 1);
        Expect.due("bringBack(1)", x.bringBack(1), 3);
        Expect.tabs(x, 0, 2, 0, 2);
    }
}
