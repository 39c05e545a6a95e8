/** Promises 1 to 4: a new object, setWindow, addPane, setLeast. */
public final class WindowTest {
    private WindowTest() {
    }

    public static void main(String[] args) {
        newObject();
        newObjectHasNoPane();
        setWindow();
        addPane();
        addPaneSixteen();
        setLeast();
        Expect.end();
    }

    private static void newObject() {
        DockTree x = new DockTree();
        Expect.due("whole(0) of a new object", x.whole(0), 100);
        Expect.due("whole(1) of a new object", x.whole(1), 60);
        for (int what = 2; what <= 11; what++) {
            Expect.due("whole(" + what + ") of a new object", x.whole(what), 0);
        }
        long h = 43151;
        int[] values = {0, 0, 100, 60, 0, 0, 0, 0, 0, 0, 0, 0, 0, 0, 0, 0, 0, 0};
        for (int value : values) {
            h = 31 * h + value;
        }
        Expect.due("digest() of a new object", x.digest(), h);
        Expect.badState("undo() of a new object", x, () -> x.undo());
        for (int place = 0; place < 4; place++) {
            int empty = place;
            Expect.badState("bringBack(" + place + ") of a new object", x, () -> x.bringBack(empty));
        }
        Expect.outOfBounds("pane(0, 0) of a new object", x, () -> x.pane(0, 0));
        Expect.groups(x);
        Expect.floating(x);
        Expect.due("paneAt(0, 0) of a new object", x.paneAt(0, 0), DockTree.NONE);
        Expect.due("clearCommands() of a new object", x.clearCommands(), 0);
    }

    private static void newObjectHasNoPane() {
        DockTree x = new DockTree();
        Expect.outOfBounds("setLeast(0, 1, 1)", x, () -> x.setLeast(0, 1, 1));
        Expect.outOfBounds("dock(0, 1, LEFT)", x, () -> x.dock(0, 1, DockTree.LEFT));
        Expect.outOfBounds("dockAtEdge(0, LEFT)", x, () -> x.dockAtEdge(0, DockTree.LEFT));
        Expect.outOfBounds("floatAt(0, 0, 0, 1, 1)", x, () -> x.floatAt(0, 0, 0, 1, 1));
        Expect.outOfBounds("raise(0)", x, () -> x.raise(0));
        Expect.outOfBounds("close(0)", x, () -> x.close(0));
        Expect.outOfBounds("activate(0)", x, () -> x.activate(0));
        Expect.outOfBounds("moveTab(0, 0)", x, () -> x.moveTab(0, 0));
        Expect.outOfBounds("setShare(0, 1)", x, () -> x.setShare(0, 1));
        Expect.outOfBounds("drag(0, 0)", x, () -> x.drag(0, 0));
        Expect.outOfBounds("split(0, 0, 0)", x, () -> x.split(0, 0, 0));
        Expect.outOfBounds("tab(0, 0)", x, () -> x.tab(0, 0));
        Expect.outOfBounds("cellsIf(0, 1, LEFT)", x, () -> x.cellsIf(0, 1, DockTree.LEFT));
        Expect.outOfBounds("bestSide(0, 1)", x, () -> x.bestSide(0, 1));
        Expect.due("runCommands()", x.runCommands(), 0);
        Expect.due("undo() of the run", x.undo(), 0);
    }

    private static void setWindow() {
        DockTree x = Expect.with(5, 5);
        x.dockAtEdge(0, DockTree.LEFT);
        Expect.due("setWindow(20, 400)", x.setWindow(20, 400), 100060);
        Expect.box(x, 0, 0, 1, 20, 399);
        Expect.due("setWindow(400, 20)", x.setWindow(400, 20), 20400);
        Expect.box(x, 0, 0, 1, 400, 19);
        Expect.due("setWindow(400, 20) again", x.setWindow(400, 20), 400020);
        Expect.badArgument("setWindow(19, 20)", x, () -> x.setWindow(19, 20));
        Expect.badArgument("setWindow(401, 20)", x, () -> x.setWindow(401, 20));
        Expect.badArgument("setWindow(20, 19)", x, () -> x.setWindow(20, 19));
        Expect.badArgument("setWindow(20, 401)", x, () -> x.setWindow(20, 401));
        Expect.badArgument("setWindow(-2147483648, 2147483647)", x,
                () -> x.setWindow(Integer.MIN_VALUE, Integer.MAX_VALUE));
        x.undo();
        x.undo();
        Expect.due("width behind undo", x.whole(0), 20);
        x.undo();
        Expect.due("width behind all undos", x.whole(0), 100);
        Expect.box(x, 0, 0, 1, 100, 59);
    }

    private static void addPane() {
        DockTree x = new DockTree();
        Expect.badArgument("addPane(0, 1)", x, () -> x.addPane(0, 1));
        Expect.badArgument("addPane(61, 1)", x, () -> x.addPane(61, 1));
        Expect.badArgument("addPane(1, 0)", x, () -> x.addPane(1, 0));
        Expect.badArgument("addPane(1, 61)", x, () -> x.addPane(1, 61));
        Expect.due("addPane(1, 60)", x.addPane(1, 60), 0);
        Expect.due("addPane(60, 1)", x.addPane(60, 1), 1);
        Expect.due("pane(0, 0)", x.pane(0, 0), 1);
        Expect.due("pane(0, 1)", x.pane(0, 1), 60);
        Expect.due("pane(1, 0)", x.pane(1, 0), 60);
        Expect.due("pane(1, 1)", x.pane(1, 1), 1);
        Expect.due("pane(1, 2)", x.pane(1, 2), DockTree.CLOSED);
        Expect.due("undo()", x.undo(), 1);
        Expect.due("panes behind undo", x.whole(2), 1);
        Expect.outOfBounds("pane(1, 2) behind undo", x, () -> x.pane(1, 2));
        Expect.due("addPane(7, 8) behind undo", x.addPane(7, 8), 1);
    }

    private static void addPaneSixteen() {
        DockTree x = new DockTree();
        for (int k = 0; k < 16; k++) {
            Expect.due("addPane number " + k, x.addPane(k + 1, 20 + k), k);
        }
        Expect.badState("addPane(1, 1) with 16 panes", x, () -> x.addPane(1, 1));
        Expect.badArgument("addPane(0, 1) with 16 panes", x, () -> x.addPane(0, 1));
        for (int k = 0; k < 16; k++) {
            Expect.due("pane(" + k + ", 0)", x.pane(k, 0), k + 1);
            Expect.due("pane(" + k + ", 1)", x.pane(k, 1), 20 + k);
        }
        x.undo();
        Expect.due("addPane(2, 3) behind undo", x.addPane(2, 3), 15);
    }

    private static void setLeast() {
        DockTree x = Expect.with(5, 6, 7, 8);
        x.dockAtEdge(0, DockTree.LEFT);
        Expect.due("setLeast(0, 60, 1)", x.setLeast(0, 60, 1), 5006);
        Expect.due("whole(8)", x.whole(8), 60);
        Expect.due("whole(9)", x.whole(9), 2);
        Expect.due("setLeast(0, 1, 60)", x.setLeast(0, 1, 60), 60001);
        Expect.due("pane(0, 1)", x.pane(0, 1), 60);
        Expect.due("pane(1, 0)", x.pane(1, 0), 7);
        Expect.outOfBounds("setLeast(2, 0, 0)", x, () -> x.setLeast(2, 0, 0));
        Expect.outOfBounds("setLeast(-1, 5, 5)", x, () -> x.setLeast(-1, 5, 5));
        Expect.badArgument("setLeast(1, 0, 5)", x, () -> x.setLeast(1, 0, 5));
        Expect.badArgument("setLeast(1, 61, 5)", x, () -> x.setLeast(1, 61, 5));
        Expect.badArgument("setLeast(1, 5, 0)", x, () -> x.setLeast(1, 5, 0));
        Expect.badArgument("setLeast(1, 5, 61)", x, () -> x.setLeast(1, 5, 61));
        x.undo();
        x.undo();
        Expect.due("pane(0, 0) behind undo", x.pane(0, 0), 5);
        Expect.due("whole(8) behind undo", x.whole(8), 5);
    }
}
