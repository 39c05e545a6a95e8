/** Promises 9, 10, 11 and 19: close, activate, moveTab, tab. */
public final class TabsTest {
    private TabsTest() {
    }

    public static void main(String[] args) {
        close();
        activeBehindClosing();
        activate();
        moveTab();
        tab();
        Expect.end();
    }

    private static DockTree fourTabs() {
        DockTree x = Expect.with(1, 1, 1, 1, 1, 1, 1, 1, 1, 1);
        x.dockAtEdge(0, DockTree.LEFT);
        x.dock(1, 0, DockTree.TAB);
        x.dock(2, 0, DockTree.TAB);
        x.dock(3, 0, DockTree.TAB);
        return x;
    }

    private static void close() {
        DockTree x = Expect.with(1, 1, 1, 1, 1, 1);
        x.dockAtEdge(0, DockTree.LEFT);
        x.floatAt(1, 0, 0, 5, 5);
        Expect.due("close(0)", x.close(0), DockTree.DOCKED);
        Expect.groups(x);
        Expect.due("close(0) again", x.close(0), DockTree.CLOSED);
        Expect.due("close(1)", x.close(1), DockTree.FLOATING);
        Expect.floating(x);
        Expect.due("close(2)", x.close(2), DockTree.CLOSED);
        Expect.outOfBounds("close(3)", x, () -> x.close(3));
        Expect.outOfBounds("close(-1)", x, () -> x.close(-1));
        // The close of a closed pane has saved a state, too.
        Expect.due("undo()", x.undo(), 3);
        Expect.floating(x);
        Expect.due("undo()", x.undo(), 2);
        Expect.floating(x, 1);
        x.undo();
        Expect.groups(x);
        x.undo();
        Expect.groups(x, 0);
    }

    private static void activeBehindClosing() {
        DockTree x = fourTabs();
        x.activate(1);
        x.close(1);
        Expect.tabs(x, 0, 2, 0, 2, 3);
        x.close(0);
        Expect.tabs(x, 2, 2, 2, 3);
        x.activate(3);
        x.close(3);
        Expect.tabs(x, 2, 2, 2);
        DockTree y = fourTabs();
        y.activate(0);
        y.close(0);
        Expect.tabs(y, 1, 1, 1, 2, 3);
        y.close(3);
        Expect.tabs(y, 1, 1, 1, 2);
        // Leaving by dock and by floatAt goes by the same rule.
        y.dock(1, 2, DockTree.BELOW);
        Expect.groups(y, 2, 1);
        DockTree z = fourTabs();
        z.activate(2);
        z.floatAt(2, 0, 0, 5, 5);
        Expect.tabs(z, 0, 3, 0, 1, 3);
    }

    private static void activate() {
        DockTree x = fourTabs();
        Expect.due("activate(1)", x.activate(1), 3);
        Expect.tabs(x, 0, 1, 0, 1, 2, 3);
        Expect.due("activate(1) again", x.activate(1), 1);
        Expect.groups(x, 1);
        x.undo();
        x.undo();
        Expect.groups(x, 3);
        x.floatAt(0, 0, 0, 9, 9);
        x.floatAt(1, 0, 0, 9, 9);
        x.dock(2, 0, DockTree.TAB);
        Expect.due("activate(1) of the only tab", x.activate(1), 1);
        Expect.due("activate(0) of a floating group", x.activate(0), 2);
        // It does not raise the group.
        Expect.floating(x, 0, 1);
        Expect.outOfBounds("activate(5)", x, () -> x.activate(5));
        Expect.outOfBounds("activate(-1)", x, () -> x.activate(-1));
        Expect.badState("activate(4) of a closed pane", x, () -> x.activate(4));
    }

    private static void moveTab() {
        DockTree x = fourTabs();
        Expect.due("moveTab(0, 2)", x.moveTab(0, 2), 0);
        Expect.tabs(x, 0, 3, 1, 2, 0, 3);
        Expect.due("moveTab(3, 0)", x.moveTab(3, 0), 3);
        Expect.tabs(x, 0, 3, 3, 1, 2, 0);
        Expect.due("moveTab(1, 3)", x.moveTab(1, 3), 1);
        Expect.tabs(x, 0, 3, 3, 2, 0, 1);
        Expect.due("moveTab(2, 1)", x.moveTab(2, 1), 1);
        Expect.tabs(x, 0, 3, 3, 2, 0, 1);
        x.undo();
        x.undo();
        Expect.tabs(x, 0, 3, 3, 1, 2, 0);
        Expect.outOfBounds("moveTab(5, -1)", x, () -> x.moveTab(5, -1));
        Expect.outOfBounds("moveTab(-1, 0)", x, () -> x.moveTab(-1, 0));
        Expect.badState("moveTab(4, -1) of a closed pane", x, () -> x.moveTab(4, -1));
        Expect.badArgument("moveTab(0, -1)", x, () -> x.moveTab(0, -1));
        Expect.badArgument("moveTab(0, 4)", x, () -> x.moveTab(0, 4));
        x.floatAt(4, 0, 0, 5, 5);
        Expect.due("moveTab(4, 0) of the only tab", x.moveTab(4, 0), 0);
        Expect.badArgument("moveTab(4, 1) of the only tab", x, () -> x.moveTab(4, 1));
        Expect.floating(x, 4);
    }

    private static void tab() {
        DockTree x = fourTabs();
        x.moveTab(0, 1);
        for (int pane = 0; pane < 4; pane++) {
            Expect.due("tab(" + pane + ", 0)", x.tab(pane, 0), 1);
            Expect.due("tab(" + pane + ", 1)", x.tab(pane, 1), 0);
            Expect.due("tab(" + pane + ", 3)", x.tab(pane, 3), 3);
            Expect.due("tab(" + pane + ", 4)", x.tab(pane, 4), DockTree.NONE);
        }
        Expect.due("tab(0, 2147483647)", x.tab(0, Integer.MAX_VALUE), DockTree.NONE);
        Expect.due("tab(4, 0) of a closed pane", x.tab(4, 0), DockTree.NONE);
        Expect.outOfBounds("tab(5, -1)", x, () -> x.tab(5, -1));
        Expect.outOfBounds("tab(-1, 0)", x, () -> x.tab(-1, 0));
        Expect.badArgument("tab(0, -1)", x, () -> x.tab(0, -1));
        Expect.badArgument("tab(4, -1) of a closed pane", x, () -> x.tab(4, -1));
    }
}
