import java.math.BigInteger;
import java.util.ArrayList;
import java.util.List;

/**
 * The boundary cases of the terms of the document about floating groups, layouts, undo, the digest and the life of an
 * object: one test for each sentence that names one.
 */
public final class StateEdgesTest {
    private StateEdgesTest() {
    }

    public static void main(String[] args) {
        boxBeyondTheWindow();
        boxOfOneCell();
        sixteenFloatingGroups();
        raiseOfLowestAndTop();
        lastFloatingPaneTakenAway();
        madeAnewIsOnTop();
        onlyDockedPaneFloats();
        fourLayouts();
        layoutInPlaceOfOne();
        layoutOfNothing();
        layoutOfAllPanes();
        panesAddedSince();
        layoutIntoSmallWindow();
        layoutOfWhatThereIs();
        stackOfFourStates();
        stackGoesAround();
        undoneStateIsWhole();
        textIsNotUndone();
        whatIfAtTheEdges();
        digestOfAllStates();
        digestWraps();
        fiveHundredAndTwelveCalls();
        Expect.end();
    }

    // "a box, which can reach beyond the window", or lie beyond it.
    private static void boxBeyondTheWindow() {
        DockTree x = Expect.closed(2);
        x.dockAtEdge(0, DockTree.LEFT);
        x.floatAt(1, 99, 59, 400, 400);
        Expect.box(x, 1, 99, 60, 400, 399);
        Expect.due("paneAt the last cell", x.paneAt(99, 59), 1);
        Expect.due("paneAt the cell before", x.paneAt(98, 59), 0);
        Expect.due("paneAt the cell above", x.paneAt(99, 58), 0);
        x.floatAt(1, 100, 0, 1, 60);
        Expect.due("paneAt beside a box beyond the window", x.paneAt(99, 0), 0);
        x.setWindow(101, 60);
        Expect.due("paneAt when the window reaches it", x.paneAt(100, 59), 1);
        Expect.box(x, 1, 100, 1, 1, 59);
        x.setWindow(20, 20);
        Expect.box(x, 1, 100, 1, 1, 59);
    }

    private static void boxOfOneCell() {
        DockTree x = Expect.closed(1);
        x.setLeast(0, 60, 60);
        x.floatAt(0, 0, 0, 1, 1);
        Expect.box(x, 0, 0, 1, 1, 0);
        Expect.due("paneAt its cell", x.paneAt(0, 0), 0);
        Expect.due("paneAt beside it", x.paneAt(1, 0), DockTree.NONE);
        Expect.due("paneAt below it", x.paneAt(0, 1), DockTree.NONE);
        x.floatAt(0, 0, 0, 1, 2);
        Expect.box(x, 0, 0, 1, 1, 1);
    }

    // "Floating groups lie one above the other": with 16 panes there are 16 at the most.
    private static void sixteenFloatingGroups() {
        DockTree x = Expect.closed(16);
        for (int k = 0; k < 16; k++) {
            Expect.due("floatAt number " + k, x.floatAt(k, k, 0, 16, 2), k + 1);
        }
        Expect.floating(x, 0, 1, 2, 3, 4, 5, 6, 7, 8, 9, 10, 11, 12, 13, 14, 15);
        for (int k = 0; k < 16; k++) {
            Expect.box(x, k, k, 1, 16, 1);
            Expect.due("paneAt the left upper cell of pane " + k, x.paneAt(k, 0), k);
            Expect.due("paneAt a cell of all of them, number " + k, x.paneAt(15, k % 2), 15);
        }
        Expect.due("raise of the lowest one", x.raise(0), 0);
        Expect.floating(x, 1, 2, 3, 4, 5, 6, 7, 8, 9, 10, 11, 12, 13, 14, 15, 0);
        Expect.due("floatAt of one of them", x.floatAt(8, 0, 0, 9, 9), 16);
        Expect.floating(x, 1, 2, 3, 4, 5, 6, 7, 9, 10, 11, 12, 13, 14, 15, 0, 8);
        Expect.due("paneAt where 9 of them are", x.paneAt(8, 0), 8);
        Expect.due("paneAt where 8 is not", x.paneAt(9, 1), 0);
        for (int k = 0; k < 16; k++) {
            x.close(k);
        }
        Expect.floating(x);
    }

    // "one that is made, or raised, comes on top of all"
    private static void raiseOfLowestAndTop() {
        DockTree x = Expect.closed(3);
        x.floatAt(0, 0, 0, 5, 5);
        Expect.due("raise of the only one", x.raise(0), 0);
        Expect.floating(x, 0);
        x.floatAt(1, 0, 0, 5, 5);
        x.floatAt(2, 0, 0, 5, 5);
        Expect.due("raise of the one on top", x.raise(2), 2);
        Expect.floating(x, 0, 1, 2);
        Expect.due("raise of the one in the middle", x.raise(1), 1);
        Expect.floating(x, 0, 2, 1);
        Expect.due("raise of the lowest one", x.raise(0), 0);
        Expect.floating(x, 2, 1, 0);
    }

    // "When panes are taken away, they go by the same rules as groups of the tree"
    private static void lastFloatingPaneTakenAway() {
        DockTree x = Expect.closed(3);
        x.floatAt(0, 0, 0, 5, 5);
        x.floatAt(1, 0, 0, 6, 6);
        x.floatAt(2, 0, 0, 7, 7);
        x.close(1);
        Expect.floating(x, 0, 2);
        Expect.due("dockAtEdge of a floating pane", x.dockAtEdge(0, DockTree.LEFT), 1);
        Expect.floating(x, 2);
        Expect.due("raise of the one that is left", x.raise(2), 0);
        x.dock(2, 0, DockTree.TAB);
        Expect.floating(x);
        Expect.due("paneAt where it was", x.paneAt(6, 6), 2);
    }

    // A pane that floats alone and is made a group of its own again comes on top, with its new box.
    private static void madeAnewIsOnTop() {
        DockTree x = Expect.closed(2);
        x.floatAt(0, 1, 1, 5, 5);
        x.floatAt(1, 0, 0, 5, 5);
        Expect.due("floatAt of the lowest one", x.floatAt(0, 3, 3, 9, 9), 2);
        Expect.floating(x, 1, 0);
        Expect.box(x, 0, 3, 4, 9, 8);
        Expect.box(x, 1, 0, 1, 5, 4);
    }

    private static void onlyDockedPaneFloats() {
        DockTree x = Expect.closed(1);
        x.dockAtEdge(0, DockTree.LEFT);
        Expect.due("floatAt of the root", x.floatAt(0, 0, 0, 5, 5), 1);
        Expect.groups(x);
        Expect.due("floating panes", x.whole(4), 1);
        Expect.due("docked panes", x.whole(3), 0);
    }

    // "There are 4 places for layouts, numbered from 0": all of them full, each with its own.
    private static void fourLayouts() {
        DockTree x = Expect.closed(4);
        for (int place = 0; place < 4; place++) {
            x.dockAtEdge(place, DockTree.RIGHT);
            Expect.due("save(" + place + ")", x.save(place), 0);
        }
        for (int place = 3; place >= 0; place--) {
            Expect.due("bringBack(" + place + ")", x.bringBack(place), place + 1);
            Expect.due("groups of layout " + place, x.whole(5), place + 1);
            Expect.due("last pane of layout " + place, x.group(place), place);
        }
        for (int place = 0; place < 4; place++) {
            Expect.due("save(" + place + ") again", x.save(place), 1);
        }
        Expect.due("bringBack(3) of what was saved again", x.bringBack(3), 1);
    }

    // "Saves the layout, in place of one that was there."
    private static void layoutInPlaceOfOne() {
        DockTree x = Expect.closed(2);
        x.dockAtEdge(0, DockTree.LEFT);
        x.save(0);
        x.floatAt(1, 0, 0, 5, 5);
        Expect.due("save(0) again", x.save(0), 1);
        x.close(0);
        x.close(1);
        Expect.due("bringBack(0)", x.bringBack(0), 2);
        Expect.floating(x, 1);
        x.close(1);
        x.save(0);
        Expect.due("bringBack(0) of a smaller one", x.bringBack(0), 1);
        Expect.floating(x);
    }

    private static void layoutOfNothing() {
        DockTree x = new DockTree();
        Expect.due("save(3) without panes", x.save(3), 0);
        Expect.due("save(3) in place of an empty layout", x.save(3), 1);
        Expect.due("bringBack(3) without panes", x.bringBack(3), 0);
        x.addPane(1, 1);
        x.dockAtEdge(0, DockTree.LEFT);
        Expect.due("bringBack(3) of no panes", x.bringBack(3), 0);
        Expect.due("state of a pane that it does not have", x.pane(0, 2), DockTree.CLOSED);
        Expect.groups(x);
    }

    /** The most splits that 16 panes can have, with weights of their own. */
    private static DockTree deepest() {
        DockTree x = Expect.closed(16);
        x.setWindow(400, 400);
        x.dockAtEdge(0, DockTree.LEFT);
        for (int k = 1; k < 16; k++) {
            x.dock(k, k - 1, k % 2 == 0 ? DockTree.BELOW : DockTree.RIGHT);
            x.setShare(k, 3 + k);
        }
        return x;
    }

    private static void layoutOfAllPanes() {
        DockTree x = deepest();
        Expect.due("splits above pane 15", x.pane(15, 11), 15);
        List<Integer> before = valuesOf(x);
        x.save(0);
        for (int k = 0; k < 16; k++) {
            x.floatAt(k, k, k, 20, 20);
        }
        List<Integer> floating = valuesOf(x);
        x.save(1);
        Expect.due("bringBack(0)", x.bringBack(0), 16);
        Expect.due("all values are as before", valuesOf(x).equals(before) ? 1 : 0, 1);
        Expect.due("bringBack(1)", x.bringBack(1), 16);
        Expect.due("all floating values are as before", valuesOf(x).equals(floating) ? 1 : 0, 1);
    }

    // "panes that it does not have (those that were closed, or have been added since) are closed"
    private static void panesAddedSince() {
        DockTree x = Expect.closed(2);
        x.dockAtEdge(0, DockTree.LEFT);
        x.save(0);
        x.dock(1, 0, DockTree.TAB);
        Expect.due("addPane", x.addPane(1, 1), 2);
        x.dock(2, 0, DockTree.BELOW);
        x.addPane(1, 1);
        x.floatAt(3, 0, 0, 5, 5);
        Expect.due("bringBack(0)", x.bringBack(0), 1);
        Expect.due("state of one that was closed", x.pane(1, 2), DockTree.CLOSED);
        Expect.due("state of one that was added and docked", x.pane(2, 2), DockTree.CLOSED);
        Expect.due("state of one that was added and floats", x.pane(3, 2), DockTree.CLOSED);
        Expect.due("panes", x.whole(2), 4);
        Expect.tabs(x, 0, 0, 0);
        Expect.due("tab of one that is closed", x.tab(1, 0), DockTree.NONE);
    }

    // "but not the sizes of the window and of panes": the tree shares what there is then.
    private static void layoutIntoSmallWindow() {
        DockTree x = Expect.with(10, 1, 10, 1);
        x.dockAtEdge(0, DockTree.LEFT);
        x.dock(1, 0, DockTree.RIGHT);
        x.save(0);
        x.close(0);
        x.setWindow(20, 20);
        x.setLeast(1, 60, 60);
        x.bringBack(0);
        Expect.due("window behind bringBack", 1000 * x.whole(0) + x.whole(1), 20020);
        Expect.due("least size behind bringBack", 1000 * x.pane(1, 0) + x.pane(1, 1), 60060);
        Expect.due("tight splits", x.whole(10), 1);
        // 19 * 10 / 70 = 2.7, 19 * 60 / 70 = 16.3.
        Expect.due("width of pane 0", x.pane(0, 5), 3);
        Expect.due("width of pane 1", x.pane(1, 5), 16);
    }

    private static void layoutOfWhatThereIs() {
        DockTree x = Expect.closed(2);
        x.dockAtEdge(0, DockTree.LEFT);
        x.save(0);
        Expect.emptyUndoStack(x);
        Expect.due("bringBack(0) without change", x.bringBack(0), 1);
        Expect.due("save(0) without change", x.save(0), 1);
        Expect.due("undo() of save", x.undo(), 1);
        Expect.due("undo() of bringBack", x.undo(), 0);
        Expect.groups(x, 0);
    }

    // "The stack keeps the latest 4 saved states and drops older ones."
    private static void stackOfFourStates() {
        for (int calls = 0; calls <= 6; calls++) {
            DockTree x = new DockTree();
            for (int k = 0; k < calls; k++) {
                x.addPane(1, 1);
            }
            int kept = Math.min(calls, 4);
            for (int left = kept - 1; left >= 0; left--) {
                Expect.due("undo() behind " + calls + " calls", x.undo(), left);
            }
            Expect.due("panes behind all undos of " + calls + " calls", x.whole(2), calls - kept);
            Expect.badState("undo() of all of " + calls + " calls", x, () -> x.undo());
        }
    }

    // Saving and undoing in turns, so that the places of the stack are used again in every order.
    private static void stackGoesAround() {
        DockTree x = new DockTree();
        List<Integer> stack = new ArrayList<>();
        int width = 100;
        for (int k = 0; k < 200; k++) {
            boolean undoes = !stack.isEmpty() && (k * k / 7) % 5 < 2;
            if (undoes) {
                width = stack.remove(stack.size() - 1);
                Expect.due("undo() number " + k, x.undo(), stack.size());
            } else {
                stack.add(width);
                width = 20 + k;
                x.setWindow(width, 60);
                if (stack.size() > 4) {
                    stack.remove(0);
                }
            }
            Expect.due("width behind call " + k, x.whole(0), width);
        }
    }

    // "saves the whole state, layouts included"
    private static void undoneStateIsWhole() {
        DockTree x = deepest();
        x.save(1);
        List<Integer> before = valuesOf(x);
        Expect.run(x, "save 1;save 2;float 3 0 0 9 9;close 4;dock 5 3 4;edge 6 0;share 8 900;close 0;");
        Expect.due("undo() of a run", x.undo(), 3);
        Expect.due("all values are as before the run", valuesOf(x).equals(before) ? 1 : 0, 1);
        Expect.badState("bringBack of a layout of the run", x, () -> x.bringBack(2));
        x.close(0);
        x.save(1);
        x.setWindow(300, 300);
        x.undo();
        x.undo();
        Expect.due("bringBack(1) of the layout before", x.bringBack(1), 16);
        Expect.due("all values are as saved", valuesOf(x).equals(before) ? 1 : 0, 1);
    }

    // "but not the command text"
    private static void textIsNotUndone() {
        DockTree x = new DockTree();
        Expect.type(x, "pane 1 1");
        x.setWindow(50, 50);
        Expect.type(x, ";");
        Expect.due("undo()", x.undo(), 0);
        Expect.due("runCommands() of the text that stays", x.runCommands(), 1);
        Expect.due("clearCommands()", x.clearCommands(), 9);
        Expect.due("undo() of the run", x.undo(), 0);
        Expect.due("the text stays empty", x.clearCommands(), 0);
        Expect.due("panes", x.whole(2), 0);
    }

    // "what if, which changes nothing", in a window without room and in the widest one.
    private static void whatIfAtTheEdges() {
        DockTree x = deepest();
        Expect.due("tightIn(400, 400)", x.tightIn(400, 400), x.whole(10));
        List<Integer> before = valuesOf(x);
        long digest = x.digest();
        Expect.due("tightIn(20, 20) of 15 splits", x.tightIn(20, 20) > x.tightIn(400, 400) ? 1 : 0, 1);
        for (int target = 0; target < 15; target++) {
            int best = x.bestSide(15, target);
            int most = x.cellsIf(15, target, best);
            for (int side = DockTree.LEFT; side <= DockTree.BELOW; side++) {
                int cells = x.cellsIf(15, target, side);
                boolean better = cells > most || cells == most && side < best;
                Expect.due("side " + side + " of pane " + target + " is better than the best", better ? 1 : 0, 0);
            }
        }
        Expect.due("all values are as before the questions", valuesOf(x).equals(before) ? 1 : 0, 1);
        Expect.due("digest() behind the questions", x.digest(), digest);
        DockTree y = Expect.closed(2);
        y.dockAtEdge(0, DockTree.LEFT);
        Expect.due("cellsIf of the whole window", y.cellsIf(1, 0, DockTree.TAB), 100 * 59);
        y.setWindow(400, 400);
        Expect.due("cellsIf of the greatest window", y.cellsIf(1, 0, DockTree.TAB), 400 * 399);
        y.setLeast(0, 60, 60);
        y.setWindow(20, 20);
        // 19 * 60 / 61 = 18.7 and 0.3 columns; 19 * 61 / 63 = 18.4 and 0.6 rows; one goes to the first child.
        Expect.due("cellsIf of one column", y.cellsIf(1, 0, DockTree.LEFT), 19);
        Expect.due("cellsIf of no column", y.cellsIf(1, 0, DockTree.RIGHT), 0);
        Expect.due("cellsIf of one row", y.cellsIf(1, 0, DockTree.ABOVE), 0);
        Expect.due("cellsIf of no row", y.cellsIf(1, 0, DockTree.BELOW), 0);
    }

    // The digest is of the values that the other calls answer, in the order of the document.
    private static void digestOfAllStates() {
        DockTree x = new DockTree();
        Expect.due("digest() of a new object", x.digest(), digestOf(x, 0, 0, 0, 0, 0, 0));
        x.save(0);
        x.save(2);
        Expect.due("digest() with layouts alone", x.digest(), digestOf(x, 2, 0, 1, 0, 1, 0));
        DockTree y = deepest();
        Expect.type(y, " ".repeat(150));
        y.save(3);
        Expect.due("digest() of 15 splits", y.digest(), digestOf(y, 4, 150, 0, 0, 0, 1));
        for (int k = 15; k >= 0; k--) {
            y.floatAt(k, 399, 399, 400, 400);
            Expect.due("digest() with pane " + k + " floating", y.digest(), digestOf(y, 4, 150, 0, 0, 0, 1));
        }
        DockTree z = Expect.closed(3);
        z.dockAtEdge(0, DockTree.LEFT);
        z.dock(1, 0, DockTree.TAB);
        z.dock(2, 0, DockTree.TAB);
        Expect.due("digest() of three tabs of the root", z.digest(), digestOf(z, 4, 0, 0, 0, 0, 0));
        z.dock(2, 0, DockTree.BELOW);
        z.close(0);
        z.floatAt(1, 0, 0, 1, 1);
        Expect.due("digest() of panes in each state", z.digest(), digestOf(z, 4, 0, 0, 0, 0, 0));
    }

    private static long digestOf(DockTree x, int states, int length, int... layouts) {
        long h = 43151;
        h = 31 * h + states;
        h = 31 * h + length;
        for (int value : valuesOf(x)) {
            h = 31 * h + value;
        }
        for (int layout : layouts) {
            h = 31 * h + layout;
        }
        return h;
    }

    // "(long arithmetic, overflow wraps)": the same over numbers without a bound, of which the last 64 bits count.
    private static void digestWraps() {
        DockTree x = deepest();
        BigInteger h = BigInteger.valueOf(43151);
        List<Integer> values = new ArrayList<>(List.of(4, 0));
        values.addAll(valuesOf(x));
        values.addAll(List.of(0, 0, 0, 0));
        for (int value : values) {
            h = h.multiply(BigInteger.valueOf(31)).add(BigInteger.valueOf(value));
        }
        Expect.due("digest() that wraps around", x.digest(), h.longValue());
        Expect.due("the number has more than 64 bits", h.bitLength() > 64 ? 1 : 0, 1);
    }

    /** The values that the digest is of, between the length of the text and the layouts. */
    private static List<Integer> valuesOf(DockTree x) {
        List<Integer> values = new ArrayList<>();
        for (int what = 0; what <= 11; what++) {
            values.add(x.whole(what));
        }
        for (int pane = 0; pane < x.whole(2); pane++) {
            for (int what = 0; what <= 11; what++) {
                values.add(x.pane(pane, what));
            }
            values.add(x.tab(pane, 0));
            values.add(x.tab(pane, 1));
        }
        for (int pane = 0; pane < x.whole(2); pane++) {
            for (int level = 0; level < x.pane(pane, 11); level++) {
                for (int what = 0; what <= 7; what++) {
                    values.add(x.split(pane, level, what));
                }
            }
        }
        for (int k = 0; k < x.whole(5); k++) {
            values.add(x.group(k));
        }
        for (int k = 0; k < x.whole(7); k++) {
            values.add(x.floating(k));
        }
        return values;
    }

    // "An object is used for at most 512 calls": the last one answers like the first one.
    private static void fiveHundredAndTwelveCalls() {
        DockTree x = Expect.closed(16);
        for (int k = 16; k < 510; k++) {
            int pane = k % 16;
            int target = (k + 1 + k / 16) % 16;
            if (k < 32) {
                x.dockAtEdge(pane, k % 4);
            } else {
                x.dock(pane, pane == target ? (target + 1) % 16 : target, k % 5);
            }
        }
        Expect.due("docked panes behind 510 calls", x.whole(3), 16);
        Expect.due("undo(), the call number 512", x.undo(), 3);
    }
}
