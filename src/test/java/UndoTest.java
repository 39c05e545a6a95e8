import java.util.function.Consumer;

/** Promises 29 and 30: undo, digest; and that all undoable calls save one state, and no other call does. */
public final class UndoTest {
    private UndoTest() {
    }

    public static void main(String[] args) {
        latestFour();
        everyUndoableCall();
        noOtherCall();
        layoutsAreUndone();
        digest();
        digestOfLayouts();
        Expect.end();
    }

    private static void latestFour() {
        DockTree x = new DockTree();
        for (int k = 0; k < 6; k++) {
            x.setWindow(100 + k, 50);
        }
        Expect.due("undo()", x.undo(), 3);
        Expect.due("width", x.whole(0), 104);
        Expect.due("undo()", x.undo(), 2);
        x.setWindow(300, 50);
        Expect.due("undo() behind another call", x.undo(), 2);
        Expect.due("width", x.whole(0), 103);
        Expect.due("undo()", x.undo(), 1);
        Expect.due("undo()", x.undo(), 0);
        Expect.due("width behind all undos", x.whole(0), 101);
        Expect.badState("undo() of an empty stack", x, () -> x.undo());
    }

    /** An object with exactly three saved states, a layout, and a text that has no fault. */
    private static DockTree sample() {
        DockTree x = Expect.with(3, 3, 3, 3, 3, 3, 3, 3, 3, 3);
        x.dockAtEdge(0, DockTree.LEFT);
        x.dock(1, 0, DockTree.RIGHT);
        Expect.type(x, "pane 4 4; close 1;");
        Expect.emptyUndoStack(x);
        x.dock(2, 1, DockTree.TAB);
        x.floatAt(3, 5, 5, 9, 9);
        x.save(1);
        return x;
    }

    private static void undoable(String name, Consumer<DockTree> call) {
        DockTree x = sample();
        Expect.due("states before " + name, stackOf(x), 3);
        long before = x.digest();
        call.accept(x);
        Expect.due("undo() of " + name, x.undo(), 3);
        Expect.due("digest() behind the undo of " + name, x.digest(), before);
    }

    /** The size of the stack, by undoing all on a twin that went through the same calls. */
    private static int stackOf(DockTree x) {
        DockTree twin = sample();
        Expect.due("digest() of the twin", twin.digest(), x.digest());
        return twin.undo() + 1;
    }

    private static void everyUndoableCall() {
        undoable("setWindow", x -> x.setWindow(50, 50));
        undoable("setWindow without change", x -> x.setWindow(100, 60));
        undoable("addPane", x -> x.addPane(9, 9));
        undoable("setLeast", x -> x.setLeast(0, 50, 50));
        undoable("setLeast without change", x -> x.setLeast(0, 3, 3));
        undoable("dock", x -> x.dock(0, 1, DockTree.BELOW));
        undoable("dock without change", x -> x.dock(2, 1, DockTree.TAB));
        undoable("dockAtEdge", x -> x.dockAtEdge(3, DockTree.ABOVE));
        undoable("floatAt", x -> x.floatAt(0, 1, 1, 1, 1));
        undoable("raise without change", x -> x.raise(3));
        undoable("close", x -> x.close(1));
        undoable("close of a closed pane", x -> x.close(4));
        undoable("activate", x -> x.activate(1));
        undoable("activate without change", x -> x.activate(2));
        undoable("moveTab", x -> x.moveTab(1, 1));
        undoable("moveTab without change", x -> x.moveTab(1, 0));
        undoable("setShare", x -> x.setShare(0, 5));
        undoable("setShare without change", x -> x.setShare(0, 1));
        undoable("drag", x -> x.drag(0, 5));
        undoable("save", x -> x.save(0));
        undoable("save in place of one", x -> x.save(1));
        undoable("bringBack", x -> x.bringBack(1));
        undoable("runCommands", DockTree::runCommands);
    }

    private static void noOtherCall() {
        DockTree x = sample();
        x.pane(0, 3);
        x.split(0, 0, 0);
        x.paneAt(0, 0);
        x.tab(0, 0);
        x.group(0);
        x.floating(0);
        x.whole(0);
        x.tightIn(20, 20);
        x.cellsIf(0, 1, 0);
        x.bestSide(0, 1);
        x.type(';');
        x.clearCommands();
        x.digest();
        Expect.type(x, "close");
        x.runCommands();
        Expect.badState("bringBack(2)", x, () -> x.bringBack(2));
        Expect.due("undo() behind calls that save no state", x.undo(), 2);
        Expect.due("length of the text behind undo", x.clearCommands(), 5);
    }

    private static void layoutsAreUndone() {
        DockTree x = Expect.with(3, 3, 3, 3);
        x.dockAtEdge(0, DockTree.LEFT);
        x.save(0);
        x.dock(1, 0, DockTree.LEFT);
        x.save(0);
        x.undo();
        x.bringBack(0);
        Expect.groups(x, 0);
        x.undo();
        Expect.groups(x, 1, 0);
        x.undo();
        x.undo();
        Expect.badState("bringBack(0)", x, () -> x.bringBack(0));
    }

    private static long mixed(int... values) {
        long h = 43151;
        for (int value : values) {
            h = 31 * h + value;
        }
        return h;
    }

    private static void digest() {
        DockTree x = Expect.with(5, 6, 7, 8, 9, 10);
        x.dockAtEdge(0, DockTree.LEFT);
        x.dock(1, 0, DockTree.RIGHT);
        x.floatAt(2, 3, 4, 20, 30);
        Expect.type(x, "pane");
        x.save(2);
        Expect.due("digest()", x.digest(), mixed(
                4, 4,
                100, 60, 3, 2, 1, 2, 1, 1, 13, 9, 0, 60,
                5, 6, 1, 0, 1, 50, 59, 1, 0, 1, 1, 1, 0, -1,
                7, 8, 1, 51, 1, 49, 59, 1, 0, 1, 1, 1, 1, -1,
                9, 10, 2, 3, 5, 20, 29, 1, 0, 1, -1, 0, 2, -1,
                0, 2, 0, 13, 9, 100, 60, 0,
                0, 2, 1, 13, 9, 100, 60, 0,
                0, 1, 2,
                0, 0, 1, 0));
    }

    private static void digestOfLayouts() {
        DockTree x = new DockTree();
        long empty = mixed(0, 0, 100, 60, 0, 0, 0, 0, 0, 0, 0, 0, 0, 0, 0, 0, 0, 0);
        Expect.due("digest() of a new object", x.digest(), empty);
        x.save(0);
        x.save(3);
        Expect.due("digest() with layouts", x.digest(), mixed(2, 0, 100, 60, 0, 0, 0, 0, 0, 0, 0, 0, 0, 0, 1, 0, 0, 1));
        x.undo();
        x.undo();
        Expect.due("digest() behind undo", x.digest(), empty);
    }
}
