/**
 * Every argument that has a range, of every method: its least and its greatest value are taken, and values that are
 * too small or too large are refused, with the exception that is due, and change nothing.
 */
public final class RangesTest {
    private static final Class<?> ARGUMENT = IllegalArgumentException.class;
    private static final Class<?> BOUNDS = IndexOutOfBoundsException.class;
    private static final int ENDLESS = Integer.MAX_VALUE;

    private interface Call {
        long of(DockTree x, int value);
    }

    private RangesTest() {
    }

    public static void main(String[] args) {
        sizes();
        panes();
        panesThatAreAsked();
        sides();
        boxes();
        tabsAndWeights();
        cellsOfDrag();
        layouts();
        whats();
        cells();
        indices();
        bytes();
        Expect.end();
    }

    /**
     * Panes 0 beside 1 above 2, pane 3 as a tab of 1, pane 4 floating below pane 5, four layouts. Three states are on
     * the undo stack, so that one that is saved by a refused call shows in the digest.
     */
    private static DockTree sample() {
        DockTree x = Expect.with(10, 6, 20, 7, 30, 8, 15, 9, 4, 5, 1, 2);
        x.dockAtEdge(0, DockTree.LEFT);
        x.dock(1, 0, DockTree.RIGHT);
        x.dock(2, 1, DockTree.BELOW);
        x.dock(3, 1, DockTree.TAB);
        x.floatAt(4, 1, 2, 3, 4);
        for (int place = 0; place < 4; place++) {
            x.save(place);
        }
        Expect.emptyUndoStack(x);
        x.floatAt(5, 5, 6, 7, 8);
        x.setShare(0, 2);
        x.activate(1);
        return x;
    }

    private static void range(String what, int least, int most, Class<?> due, Call call) {
        taken(what, least, call);
        taken(what, most, call);
        outside(what, least, most, due, call);
    }

    private static void taken(String what, int value, Call call) {
        String got = "answered";
        try {
            call.of(sample(), value);
        } catch (RuntimeException e) {
            got = "threw " + e.getClass().getName();
        }
        Expect.due(what + " " + value + " " + got + ", in its range: exceptions", got.equals("answered") ? 0 : 1, 0);
    }

    private static void outside(String what, int least, int most, Class<?> due, Call call) {
        refused(what, least - 1, due, call);
        refused(what, Integer.MIN_VALUE, due, call);
        if (most != ENDLESS) {
            refused(what, most + 1, due, call);
            refused(what, Integer.MAX_VALUE, due, call);
        }
    }

    private static void refused(String what, int value, Class<?> due, Call call) {
        DockTree x = sample();
        if (due == BOUNDS) {
            Expect.outOfBounds(what + " " + value, x, () -> call.of(x, value));
        } else {
            Expect.badArgument(what + " " + value, x, () -> call.of(x, value));
        }
        Expect.due("undo() behind the refused " + what + " " + value, x.undo(), 2);
    }

    private static void sizes() {
        range("setWindow width", 20, 400, ARGUMENT, (x, v) -> x.setWindow(v, 60));
        range("setWindow height", 20, 400, ARGUMENT, (x, v) -> x.setWindow(100, v));
        range("tightIn width", 20, 400, ARGUMENT, (x, v) -> x.tightIn(v, 60));
        range("tightIn height", 20, 400, ARGUMENT, (x, v) -> x.tightIn(100, v));
        range("addPane width", 1, 60, ARGUMENT, (x, v) -> x.addPane(v, 5));
        range("addPane height", 1, 60, ARGUMENT, (x, v) -> x.addPane(5, v));
        range("setLeast width", 1, 60, ARGUMENT, (x, v) -> x.setLeast(1, v, 5));
        range("setLeast height", 1, 60, ARGUMENT, (x, v) -> x.setLeast(1, 5, v));
    }

    private static void panes() {
        range("setLeast pane", 0, 5, BOUNDS, (x, v) -> x.setLeast(v, 5, 5));
        range("dock pane", 0, 5, BOUNDS, (x, v) -> x.dock(v, 1, DockTree.BELOW));
        range("dock target", 0, 5, BOUNDS, (x, v) -> x.dock(2, v, DockTree.TAB));
        range("dockAtEdge pane", 0, 5, BOUNDS, (x, v) -> x.dockAtEdge(v, DockTree.BELOW));
        range("floatAt pane", 0, 5, BOUNDS, (x, v) -> x.floatAt(v, 1, 1, 1, 1));
        range("close pane", 0, 5, BOUNDS, (x, v) -> x.close(v));
        range("activate pane", 0, 5, BOUNDS, (x, v) -> x.activate(v));
        range("moveTab pane", 0, 5, BOUNDS, (x, v) -> x.moveTab(v, 0));
        taken("raise pane", 5, (x, v) -> x.raise(v));
        outside("raise pane", 0, 5, BOUNDS, (x, v) -> x.raise(v));
        taken("setShare pane", 0, (x, v) -> x.setShare(v, 4));
        outside("setShare pane", 0, 5, BOUNDS, (x, v) -> x.setShare(v, 4));
        taken("drag pane", 0, (x, v) -> x.drag(v, 1));
        outside("drag pane", 0, 5, BOUNDS, (x, v) -> x.drag(v, 1));
    }

    private static void panesThatAreAsked() {
        range("pane pane", 0, 5, BOUNDS, (x, v) -> x.pane(v, 3));
        range("split pane", 0, 5, BOUNDS, (x, v) -> x.split(v, 0, 0));
        range("tab pane", 0, 5, BOUNDS, (x, v) -> x.tab(v, 0));
        range("cellsIf pane", 0, 5, BOUNDS, (x, v) -> x.cellsIf(v, 1, DockTree.LEFT));
        range("cellsIf target", 0, 5, BOUNDS, (x, v) -> x.cellsIf(2, v, DockTree.TAB));
        range("bestSide pane", 0, 5, BOUNDS, (x, v) -> x.bestSide(v, 1));
        taken("bestSide target", 0, (x, v) -> x.bestSide(2, v));
        outside("bestSide target", 0, 5, BOUNDS, (x, v) -> x.bestSide(2, v));
    }

    private static void sides() {
        range("dock side", DockTree.LEFT, DockTree.TAB, ARGUMENT, (x, v) -> x.dock(2, 0, v));
        range("dockAtEdge side", DockTree.LEFT, DockTree.BELOW, ARGUMENT, (x, v) -> x.dockAtEdge(2, v));
        range("cellsIf side", DockTree.LEFT, DockTree.TAB, ARGUMENT, (x, v) -> x.cellsIf(2, 0, v));
    }

    private static void boxes() {
        range("floatAt x", 0, 399, ARGUMENT, (x, v) -> x.floatAt(2, v, 1, 1, 1));
        range("floatAt y", 0, 399, ARGUMENT, (x, v) -> x.floatAt(2, 1, v, 1, 1));
        range("floatAt width", 1, 400, ARGUMENT, (x, v) -> x.floatAt(2, 1, 1, v, 1));
        range("floatAt height", 1, 400, ARGUMENT, (x, v) -> x.floatAt(2, 1, 1, 1, v));
    }

    private static void tabsAndWeights() {
        range("moveTab place of two", 0, 1, ARGUMENT, (x, v) -> x.moveTab(3, v));
        range("moveTab place of one", 0, 0, ARGUMENT, (x, v) -> x.moveTab(0, v));
        range("moveTab place of a floating one", 0, 0, ARGUMENT, (x, v) -> x.moveTab(4, v));
        range("setShare weight", 1, 1000000, ARGUMENT, (x, v) -> x.setShare(1, v));
    }

    // No drag of 400 cells has room, so its edges are told by which exception comes.
    private static void cellsOfDrag() {
        outside("drag cells", -400, 400, ARGUMENT, (x, v) -> x.drag(0, v));
        DockTree x = sample();
        Expect.badState("drag by -400 cells", x, () -> x.drag(0, -400));
        Expect.badState("drag by 400 cells", x, () -> x.drag(0, 400));
    }

    private static void layouts() {
        range("save place", 0, 3, ARGUMENT, (x, v) -> x.save(v));
        range("bringBack place", 0, 3, ARGUMENT, (x, v) -> x.bringBack(v));
    }

    private static void whats() {
        range("pane what", 0, 11, ARGUMENT, (x, v) -> x.pane(0, v));
        range("split what", 0, 7, ARGUMENT, (x, v) -> x.split(0, 0, v));
        range("whole what", 0, 11, ARGUMENT, (x, v) -> x.whole(v));
    }

    private static void cells() {
        range("paneAt x", 0, 99, BOUNDS, (x, v) -> x.paneAt(v, 30));
        range("paneAt y", 0, 59, BOUNDS, (x, v) -> x.paneAt(30, v));
        DockTree x = sample();
        x.setWindow(20, 400);
        Expect.due("paneAt the last cell of a high window", x.paneAt(19, 399), 2);
        Expect.outOfBounds("paneAt(20, 399) of a high window", x, () -> x.paneAt(20, 399));
        Expect.outOfBounds("paneAt(19, 400) of a high window", x, () -> x.paneAt(19, 400));
        x.setWindow(400, 20);
        Expect.due("paneAt the last cell of a wide window", x.paneAt(399, 19), 2);
        Expect.outOfBounds("paneAt(400, 19) of a wide window", x, () -> x.paneAt(400, 19));
        Expect.outOfBounds("paneAt(399, 20) of a wide window", x, () -> x.paneAt(399, 20));
    }

    private static void indices() {
        range("split level", 0, ENDLESS, ARGUMENT, (x, v) -> x.split(0, v, 0));
        range("tab place", 0, ENDLESS, ARGUMENT, (x, v) -> x.tab(0, v));
        range("group index", 0, ENDLESS, ARGUMENT, (x, v) -> x.group(v));
        range("floating index", 0, ENDLESS, ARGUMENT, (x, v) -> x.floating(v));
    }

    private static void bytes() {
        range("type value", 0, 127, ARGUMENT, (x, v) -> x.type(v));
    }
}
