/** Promises 7 and 8: floatAt, raise. */
public final class FloatingTest {
    private FloatingTest() {
    }

    public static void main(String[] args) {
        floatAt();
        rulesOfGroups();
        wrongFloating();
        raise();
        Expect.end();
    }

    private static void floatAt() {
        DockTree x = Expect.with(50, 50, 1, 1, 1, 1);
        x.dockAtEdge(0, DockTree.LEFT);
        x.dock(1, 0, DockTree.RIGHT);
        Expect.due("floatAt(0, 399, 399, 400, 400)", x.floatAt(0, 399, 399, 400, 400), 1);
        Expect.box(x, 0, 399, 400, 400, 399);
        Expect.groups(x, 1);
        Expect.due("splits", x.whole(6), 0);
        // A box is as it is told, whatever the least size; a height of 1 has room for the tabs alone.
        Expect.due("floatAt(2, 0, 0, 1, 1)", x.floatAt(2, 0, 0, 1, 1), 2);
        Expect.box(x, 2, 0, 1, 1, 0);
        Expect.floating(x, 0, 2);
        Expect.due("floatAt again", x.floatAt(0, 3, 4, 5, 6), 2);
        Expect.floating(x, 2, 0);
        Expect.box(x, 0, 3, 5, 5, 5);
        Expect.due("weight of a floating group", x.pane(0, 10), DockTree.NONE);
        Expect.due("splits above a floating group", x.pane(0, 11), 0);
        Expect.due("split above a floating group", x.split(0, 0, 0), DockTree.NONE);
        x.undo();
        Expect.floating(x, 0, 2);
        Expect.box(x, 0, 399, 400, 400, 399);
    }

    private static void rulesOfGroups() {
        DockTree x = Expect.with(1, 1, 1, 1, 1, 1, 1, 1);
        x.floatAt(0, 10, 20, 30, 40);
        x.floatAt(3, 1, 1, 2, 2);
        x.dock(1, 0, DockTree.TAB);
        x.dock(2, 0, DockTree.TAB);
        Expect.tabs(x, 0, 2, 0, 1, 2);
        Expect.box(x, 1, 10, 21, 30, 39);
        Expect.floating(x, 2, 3);
        x.activate(0);
        x.close(0);
        Expect.tabs(x, 1, 1, 1, 2);
        Expect.due("floatAt(1) out of its group", x.floatAt(1, 5, 5, 5, 5), 3);
        Expect.floating(x, 2, 3, 1);
        Expect.tabs(x, 2, 2, 2);
        Expect.box(x, 2, 10, 21, 30, 39);
        x.close(3);
        Expect.floating(x, 2, 1);
        x.dock(1, 2, DockTree.TAB);
        Expect.floating(x, 1);
        Expect.due("floating panes", x.whole(4), 2);
        Expect.due("docked panes", x.whole(3), 0);
    }

    private static void wrongFloating() {
        DockTree x = Expect.with(1, 1);
        Expect.outOfBounds("floatAt(1, -1, 0, 1, 1)", x, () -> x.floatAt(1, -1, 0, 1, 1));
        Expect.outOfBounds("floatAt(-1, 0, 0, 1, 1)", x, () -> x.floatAt(-1, 0, 0, 1, 1));
        Expect.badArgument("floatAt(0, -1, 0, 1, 1)", x, () -> x.floatAt(0, -1, 0, 1, 1));
        Expect.badArgument("floatAt(0, 400, 0, 1, 1)", x, () -> x.floatAt(0, 400, 0, 1, 1));
        Expect.badArgument("floatAt(0, 0, -1, 1, 1)", x, () -> x.floatAt(0, 0, -1, 1, 1));
        Expect.badArgument("floatAt(0, 0, 400, 1, 1)", x, () -> x.floatAt(0, 0, 400, 1, 1));
        Expect.badArgument("floatAt(0, 0, 0, 0, 1)", x, () -> x.floatAt(0, 0, 0, 0, 1));
        Expect.badArgument("floatAt(0, 0, 0, 401, 1)", x, () -> x.floatAt(0, 0, 0, 401, 1));
        Expect.badArgument("floatAt(0, 0, 0, 1, 0)", x, () -> x.floatAt(0, 0, 0, 1, 0));
        Expect.badArgument("floatAt(0, 0, 0, 1, 401)", x, () -> x.floatAt(0, 0, 0, 1, 401));
    }

    private static void raise() {
        DockTree x = Expect.with(1, 1, 1, 1, 1, 1, 1, 1, 1, 1);
        x.floatAt(0, 0, 0, 5, 5);
        x.floatAt(1, 0, 0, 5, 5);
        x.floatAt(2, 0, 0, 5, 5);
        x.dock(3, 1, DockTree.TAB);
        Expect.due("raise(1)", x.raise(1), 1);
        Expect.floating(x, 0, 2, 3);
        Expect.tabs(x, 1, 3, 1, 3);
        Expect.due("raise(3) on top", x.raise(3), 2);
        Expect.floating(x, 0, 2, 3);
        Expect.due("raise(0)", x.raise(0), 0);
        Expect.floating(x, 2, 3, 0);
        x.undo();
        Expect.floating(x, 0, 2, 3);
        x.dockAtEdge(0, DockTree.LEFT);
        Expect.outOfBounds("raise(5)", x, () -> x.raise(5));
        Expect.outOfBounds("raise(-1)", x, () -> x.raise(-1));
        Expect.badState("raise(0) of a docked pane", x, () -> x.raise(0));
        Expect.badState("raise(4) of a closed pane", x, () -> x.raise(4));
    }
}
