/**
 * Refused calls: each exception of each method by itself, then several at once, of which the first one that the
 * document lists is due. A refused call changes nothing: neither a value nor the undo stack, the text or a layout.
 */
public final class RefusedTest {
    private static final int ROOT = 0, TAB_OF_ROOT = 1, LOW = 2, TOP = 3, SHUT = 4, MISSING = 5;

    private RefusedTest() {
    }

    public static void main(String[] args) {
        windowAndPanes();
        sixteenPanes();
        docking("dock", DockTree::dock);
        docking("cellsIf", DockTree::cellsIf);
        dockingWithSeveralFaults("dock", DockTree::dock);
        dockingWithSeveralFaults("cellsIf", DockTree::cellsIf);
        bestSide();
        floating();
        tabs();
        setShareOfRoot();
        setShareInSplit();
        drag();
        dragWithoutRoom();
        dragInTightSplit();
        layouts();
        values();
        text();
        fullText();
        undo();
        faultOfText();
        fullStackKeepsItsStates();
        Expect.end();
    }

    /** A root group of two panes, two floating panes, a closed one, a text, and three states on the undo stack. */
    private static DockTree sample() {
        DockTree x = Expect.with(10, 6, 20, 7, 30, 8, 15, 9, 4, 5);
        x.dockAtEdge(ROOT, DockTree.LEFT);
        x.dock(TAB_OF_ROOT, ROOT, DockTree.TAB);
        Expect.type(x, "pane 1 2;");
        Expect.emptyUndoStack(x);
        x.floatAt(LOW, 5, 6, 7, 8);
        x.floatAt(TOP, 9, 10, 11, 12);
        x.save(2);
        return x;
    }

    /** Panes 0 to 2, one beside the other, with 33, 33 and 32 cells, and three states on the undo stack. */
    private static DockTree row() {
        DockTree x = Expect.with(10, 1, 30, 1, 5, 1);
        x.dockAtEdge(0, DockTree.LEFT);
        Expect.emptyUndoStack(x);
        x.dock(1, 0, DockTree.RIGHT);
        x.dock(2, 1, DockTree.RIGHT);
        x.setLeast(2, 5, 2);
        return x;
    }

    /** The three states are the ones that were saved before: no refused call has saved one, or dropped one. */
    private static void sameAsFresh(DockTree x, DockTree fresh) {
        for (int k = 2; k >= 0; k--) {
            Expect.due("digest() before an undo behind refused calls", x.digest(), fresh.digest());
            Expect.due("undo() behind refused calls", x.undo(), k);
            fresh.undo();
        }
        Expect.due("digest() behind all undos", x.digest(), fresh.digest());
        Expect.due("commands of the text", x.runCommands(), fresh.runCommands());
        Expect.due("digest() behind running the text", x.digest(), fresh.digest());
    }

    private static void windowAndPanes() {
        DockTree x = sample();
        Expect.badArgument("setWindow(19, 60)", x, () -> x.setWindow(19, 60));
        Expect.badArgument("setWindow(60, 401)", x, () -> x.setWindow(60, 401));
        Expect.badArgument("addPane(0, 5)", x, () -> x.addPane(0, 5));
        Expect.badArgument("addPane(5, 61)", x, () -> x.addPane(5, 61));
        Expect.outOfBounds("setLeast of no pane", x, () -> x.setLeast(MISSING, 5, 5));
        Expect.badArgument("setLeast with a width of 0", x, () -> x.setLeast(ROOT, 0, 5));
        Expect.badArgument("setLeast with a height of 61", x, () -> x.setLeast(ROOT, 5, 61));
        Expect.outOfBounds("setLeast of no pane with a width of 0", x, () -> x.setLeast(MISSING, 0, 5));
        Expect.outOfBounds("dockAtEdge of no pane", x, () -> x.dockAtEdge(MISSING, DockTree.LEFT));
        Expect.badArgument("dockAtEdge as a tab", x, () -> x.dockAtEdge(ROOT, DockTree.TAB));
        Expect.outOfBounds("dockAtEdge of no pane as a tab", x, () -> x.dockAtEdge(MISSING, DockTree.TAB));
        Expect.outOfBounds("close of no pane", x, () -> x.close(MISSING));
        sameAsFresh(x, sample());
    }

    private static DockTree full() {
        DockTree x = new DockTree();
        for (int k = 0; k < 16; k++) {
            x.addPane(5, 5);
        }
        Expect.emptyUndoStack(x);
        x.dockAtEdge(0, DockTree.LEFT);
        x.dockAtEdge(15, DockTree.LEFT);
        x.floatAt(7, 0, 0, 5, 5);
        return x;
    }

    private static void sixteenPanes() {
        DockTree x = full();
        Expect.badState("addPane(5, 5) with 16 panes", x, () -> x.addPane(5, 5));
        Expect.badArgument("addPane(61, 5) with 16 panes", x, () -> x.addPane(61, 5));
        Expect.badArgument("addPane(5, 0) with 16 panes", x, () -> x.addPane(5, 0));
        Expect.outOfBounds("close(16) with 16 panes", x, () -> x.close(16));
        Expect.outOfBounds("dock(16, 0, LEFT) with 16 panes", x, () -> x.dock(16, 0, DockTree.LEFT));
        Expect.outOfBounds("dock(1, 16, LEFT) with 16 panes", x, () -> x.dock(1, 16, DockTree.LEFT));
        sameAsFresh(x, full());
    }

    /** dock() and cellsIf() have the same exceptions, in the same order. */
    private interface Docking {
        int of(DockTree x, int pane, int target, int side);
    }

    private static void docking(String name, Docking call) {
        DockTree x = sample();
        Expect.outOfBounds(name + " of no pane", x, () -> call.of(x, MISSING, ROOT, DockTree.LEFT));
        Expect.outOfBounds(name + " at no pane", x, () -> call.of(x, ROOT, MISSING, DockTree.LEFT));
        Expect.badArgument(name + " at itself", x, () -> call.of(x, ROOT, ROOT, DockTree.LEFT));
        Expect.badArgument(name + " at itself as a tab", x, () -> call.of(x, ROOT, ROOT, DockTree.TAB));
        Expect.badArgument(name + " at the side 5", x, () -> call.of(x, SHUT, ROOT, 5));
        Expect.badState(name + " at a closed pane", x, () -> call.of(x, ROOT, SHUT, DockTree.LEFT));
        Expect.badState(name + " at a closed pane as a tab", x, () -> call.of(x, ROOT, SHUT, DockTree.TAB));
        for (int side = DockTree.LEFT; side <= DockTree.BELOW; side++) {
            int at = side;
            Expect.badState(name + " at the side " + side + " of a floating pane", x, () -> call.of(x, ROOT, TOP, at));
        }
        sameAsFresh(x, sample());
    }

    private static void dockingWithSeveralFaults(String name, Docking call) {
        DockTree x = sample();
        Expect.outOfBounds(name + " of no pane at itself", x, () -> call.of(x, MISSING, MISSING, DockTree.LEFT));
        Expect.outOfBounds(name + " of no pane at the side 5", x, () -> call.of(x, MISSING, ROOT, 5));
        Expect.outOfBounds(name + " at no pane at the side 5", x, () -> call.of(x, ROOT, MISSING, 5));
        Expect.outOfBounds(name + " of no pane at a closed one", x, () -> call.of(x, MISSING, SHUT, DockTree.LEFT));
        Expect.outOfBounds(name + " of no pane at a floating one", x, () -> call.of(x, MISSING, TOP, DockTree.LEFT));
        Expect.badArgument(name + " of a closed pane at itself", x, () -> call.of(x, SHUT, SHUT, DockTree.LEFT));
        Expect.badArgument(name + " of a floating pane at itself", x, () -> call.of(x, TOP, TOP, DockTree.LEFT));
        Expect.badArgument(name + " at a closed pane at the side -1", x, () -> call.of(x, ROOT, SHUT, -1));
        Expect.badArgument(name + " at a floating pane at the side 5", x, () -> call.of(x, ROOT, TOP, 5));
        sameAsFresh(x, sample());
    }

    private static void bestSide() {
        DockTree x = sample();
        Expect.outOfBounds("bestSide of no pane", x, () -> x.bestSide(MISSING, ROOT));
        Expect.outOfBounds("bestSide at no pane", x, () -> x.bestSide(ROOT, MISSING));
        Expect.badArgument("bestSide at itself", x, () -> x.bestSide(ROOT, ROOT));
        Expect.badState("bestSide at a closed pane", x, () -> x.bestSide(ROOT, SHUT));
        Expect.badState("bestSide at a floating pane", x, () -> x.bestSide(ROOT, TOP));
        Expect.outOfBounds("bestSide of no pane at itself", x, () -> x.bestSide(MISSING, MISSING));
        Expect.outOfBounds("bestSide of no pane at a closed one", x, () -> x.bestSide(MISSING, SHUT));
        Expect.badArgument("bestSide of a closed pane at itself", x, () -> x.bestSide(SHUT, SHUT));
        Expect.badArgument("bestSide of a floating pane at itself", x, () -> x.bestSide(TOP, TOP));
        sameAsFresh(x, sample());
    }

    private static void floating() {
        DockTree x = sample();
        Expect.outOfBounds("floatAt of no pane", x, () -> x.floatAt(MISSING, 0, 0, 1, 1));
        Expect.badArgument("floatAt the column 400", x, () -> x.floatAt(ROOT, 400, 0, 1, 1));
        Expect.badArgument("floatAt the row -1", x, () -> x.floatAt(LOW, 0, -1, 1, 1));
        Expect.badArgument("floatAt with a width of 0", x, () -> x.floatAt(LOW, 0, 0, 0, 1));
        Expect.badArgument("floatAt with a height of 401", x, () -> x.floatAt(SHUT, 0, 0, 1, 401));
        Expect.outOfBounds("floatAt of no pane at the column 400", x, () -> x.floatAt(MISSING, 400, 0, 1, 1));
        Expect.outOfBounds("raise of no pane", x, () -> x.raise(MISSING));
        Expect.badState("raise of a docked pane", x, () -> x.raise(ROOT));
        Expect.badState("raise of a closed pane", x, () -> x.raise(SHUT));
        sameAsFresh(x, sample());
    }

    private static void tabs() {
        DockTree x = sample();
        Expect.outOfBounds("activate of no pane", x, () -> x.activate(MISSING));
        Expect.badState("activate of a closed pane", x, () -> x.activate(SHUT));
        Expect.outOfBounds("moveTab of no pane", x, () -> x.moveTab(MISSING, 0));
        Expect.badState("moveTab of a closed pane", x, () -> x.moveTab(SHUT, 0));
        Expect.badArgument("moveTab to the place 2 of two", x, () -> x.moveTab(ROOT, 2));
        Expect.badArgument("moveTab to the place -1", x, () -> x.moveTab(TOP, -1));
        Expect.outOfBounds("moveTab of no pane to the place -1", x, () -> x.moveTab(MISSING, -1));
        // Of this method the state is listed ahead of the argument.
        Expect.badState("moveTab of a closed pane to the place -1", x, () -> x.moveTab(SHUT, -1));
        Expect.badState("moveTab of a closed pane to the place 16", x, () -> x.moveTab(SHUT, 16));
        sameAsFresh(x, sample());
    }

    private static void setShareOfRoot() {
        DockTree x = sample();
        Expect.outOfBounds("setShare of no pane", x, () -> x.setShare(MISSING, 1));
        Expect.badArgument("setShare of the root to 0", x, () -> x.setShare(ROOT, 0));
        Expect.badState("setShare of the root", x, () -> x.setShare(TAB_OF_ROOT, 1));
        Expect.badState("setShare of a floating pane", x, () -> x.setShare(TOP, 1));
        Expect.badState("setShare of a closed pane", x, () -> x.setShare(SHUT, 1));
        Expect.outOfBounds("setShare of no pane to 0", x, () -> x.setShare(MISSING, 0));
        Expect.badArgument("setShare of a floating pane to 0", x, () -> x.setShare(TOP, 0));
        Expect.badArgument("setShare of a closed pane to 1000001", x, () -> x.setShare(SHUT, 1000001));
        sameAsFresh(x, sample());
    }

    private static void setShareInSplit() {
        DockTree x = row();
        Expect.badArgument("setShare to 0", x, () -> x.setShare(1, 0));
        Expect.badArgument("setShare to 1000001", x, () -> x.setShare(1, 1000001));
        sameAsFresh(x, row());
    }

    private static void drag() {
        DockTree x = sample();
        Expect.outOfBounds("drag of no pane", x, () -> x.drag(MISSING, 0));
        Expect.badArgument("drag by 401 cells", x, () -> x.drag(ROOT, 401));
        Expect.badState("drag of the root", x, () -> x.drag(ROOT, 0));
        Expect.badState("drag of a floating pane", x, () -> x.drag(LOW, 0));
        Expect.badState("drag of a closed pane", x, () -> x.drag(SHUT, 0));
        Expect.outOfBounds("drag of no pane by 401 cells", x, () -> x.drag(MISSING, 401));
        Expect.badArgument("drag of a floating pane by -401 cells", x, () -> x.drag(LOW, -401));
        Expect.badArgument("drag of a closed pane by 401 cells", x, () -> x.drag(SHUT, 401));
        sameAsFresh(x, sample());
    }

    private static void dragWithoutRoom() {
        DockTree x = row();
        Expect.badState("drag of the last child", x, () -> x.drag(2, 0));
        Expect.badState("drag of the last child by -1 cell", x, () -> x.drag(2, -1));
        Expect.badArgument("drag of the last child by 401 cells", x, () -> x.drag(2, 401));
        Expect.badState("drag that leaves 9 of 10 cells", x, () -> x.drag(0, -24));
        Expect.badState("drag that leaves the next child 29 of 30 cells", x, () -> x.drag(0, 4));
        Expect.badState("drag that leaves the next child 4 of 5 cells", x, () -> x.drag(1, 28));
        Expect.badState("drag that leaves 29 of 30 cells", x, () -> x.drag(1, -4));
        sameAsFresh(x, row());
    }

    /** 45 cells for the least widths 10, 30 and 5, and three states on the undo stack. */
    private static DockTree tightRow() {
        DockTree x = Expect.with(10, 1, 30, 1, 5, 1);
        x.dockAtEdge(0, DockTree.LEFT);
        Expect.emptyUndoStack(x);
        x.dock(1, 0, DockTree.RIGHT);
        x.dock(2, 1, DockTree.RIGHT);
        x.setWindow(47, 60);
        return x;
    }

    private static void dragInTightSplit() {
        DockTree x = tightRow();
        Expect.due("the split is tight", x.split(0, 0, 7), 1);
        Expect.badState("drag by no cell in a tight split", x, () -> x.drag(0, 0));
        Expect.badState("drag of the second child in a tight split", x, () -> x.drag(1, 0));
        Expect.badArgument("drag by 401 cells in a tight split", x, () -> x.drag(0, 401));
        sameAsFresh(x, tightRow());
    }

    private static void layouts() {
        DockTree x = sample();
        Expect.badArgument("save at the place 4", x, () -> x.save(4));
        Expect.badArgument("save at the place -1", x, () -> x.save(-1));
        Expect.badArgument("bringBack from the place 4", x, () -> x.bringBack(4));
        Expect.badArgument("bringBack from the place -1", x, () -> x.bringBack(-1));
        Expect.badState("bringBack from the empty place 3", x, () -> x.bringBack(3));
        Expect.due("bringBack(2) behind refused calls", x.bringBack(2), 4);
        x.undo();
        sameAsFresh(x, sample());
    }

    private static void values() {
        DockTree x = sample();
        Expect.outOfBounds("pane of no pane", x, () -> x.pane(MISSING, 0));
        Expect.badArgument("value 12 of a pane", x, () -> x.pane(ROOT, 12));
        Expect.outOfBounds("value 12 of no pane", x, () -> x.pane(MISSING, 12));
        Expect.badArgument("value -1 of a closed pane", x, () -> x.pane(SHUT, -1));
        Expect.outOfBounds("split of no pane", x, () -> x.split(MISSING, 0, 0));
        Expect.badArgument("split at the level -1 of the root", x, () -> x.split(ROOT, -1, 0));
        Expect.badArgument("value 8 of no split", x, () -> x.split(ROOT, 0, 8));
        Expect.badArgument("value 8 of no split of a closed pane", x, () -> x.split(SHUT, 0, 8));
        Expect.badArgument("split at the level -1 of a floating pane", x, () -> x.split(TOP, -1, 0));
        Expect.outOfBounds("split at the level -1 of no pane", x, () -> x.split(MISSING, -1, 8));
        Expect.outOfBounds("paneAt the column 100", x, () -> x.paneAt(100, 0));
        Expect.outOfBounds("paneAt the row -1", x, () -> x.paneAt(0, -1));
        Expect.outOfBounds("tab of no pane", x, () -> x.tab(MISSING, 0));
        Expect.badArgument("tab -1", x, () -> x.tab(ROOT, -1));
        Expect.badArgument("tab -1 of a closed pane", x, () -> x.tab(SHUT, -1));
        Expect.outOfBounds("tab -1 of no pane", x, () -> x.tab(MISSING, -1));
        Expect.badArgument("group -1", x, () -> x.group(-1));
        Expect.badArgument("floating -1", x, () -> x.floating(-1));
        Expect.badArgument("value 12 of the whole", x, () -> x.whole(12));
        Expect.badArgument("tightIn(19, 60)", x, () -> x.tightIn(19, 60));
        Expect.badArgument("tightIn(60, 401)", x, () -> x.tightIn(60, 401));
        sameAsFresh(x, sample());
    }

    private static void text() {
        DockTree x = sample();
        Expect.badArgument("type(-1)", x, () -> x.type(-1));
        Expect.badArgument("type(128)", x, () -> x.type(128));
        sameAsFresh(x, sample());
    }

    private static DockTree withFullText() {
        DockTree x = sample();
        Expect.type(x, " ".repeat(141));
        return x;
    }

    private static void fullText() {
        DockTree x = withFullText();
        Expect.badState("type(32) into 150 bytes", x, () -> x.type(' '));
        Expect.badState("type(59) into 150 bytes", x, () -> x.type(';'));
        Expect.badArgument("type(128) into 150 bytes", x, () -> x.type(128));
        Expect.badArgument("type(-1) into 150 bytes", x, () -> x.type(-1));
        sameAsFresh(x, withFullText());
    }

    private static void undo() {
        DockTree x = sample();
        Expect.emptyUndoStack(x);
        Expect.badState("undo() of an empty stack", x, () -> x.undo());
        Expect.badState("undo() of an empty stack again", x, () -> x.undo());
        x.close(ROOT);
        Expect.due("undo() of one state", x.undo(), 0);
        Expect.badState("undo() behind the last state", x, () -> x.undo());
    }

    // A text that has a fault is no exception, but it changes as little.
    private static void faultOfText() {
        DockTree x = sample();
        Expect.type(x, "close 0");
        long before = x.digest();
        Expect.due("runCommands() of a text that ends too soon", x.runCommands(), -10 - 16);
        Expect.due("digest() behind the fault", x.digest(), before);
        DockTree fresh = sample();
        Expect.type(fresh, "close 0");
        sameAsFresh(x, fresh);
    }

    // On a full stack a state that is saved by a refused call would drop the oldest one, at the same depth.
    private static void fullStackKeepsItsStates() {
        DockTree x = Expect.with(1, 1, 1, 1);
        for (int width = 21; width <= 25; width++) {
            x.setWindow(width, 20);
        }
        Expect.outOfBounds("close(2)", x, () -> x.close(2));
        Expect.badState("activate(0)", x, () -> x.activate(0));
        Expect.badState("raise(0)", x, () -> x.raise(0));
        Expect.badState("dock(0, 1, LEFT)", x, () -> x.dock(0, 1, DockTree.LEFT));
        Expect.badState("bringBack(0)", x, () -> x.bringBack(0));
        Expect.badState("drag(0, 0)", x, () -> x.drag(0, 0));
        for (int left = 3; left >= 0; left--) {
            Expect.due("undo() of a full stack", x.undo(), left);
            Expect.due("width behind undo", x.whole(0), 21 + left);
        }
    }
}
