/** Promises 5 and 6: dock, dockAtEdge. */
public final class DockingTest {
    private DockingTest() {
    }

    public static void main(String[] args) {
        eachSide();
        besideInSplit();
        newSplitTakesWeight();
        splitsAreNotJoined();
        lastChildTakesSplitsWeight();
        lastChildBecomesRoot();
        takenAwayFirst();
        againAndAgain();
        asTab();
        wrongDocking();
        atEdge();
        atEdgeWithoutRest();
        wrongEdge();
        Expect.end();
    }

    private static void eachSide() {
        for (int side = DockTree.LEFT; side <= DockTree.BELOW; side++) {
            DockTree x = Expect.with(5, 5, 5, 5);
            x.dockAtEdge(0, DockTree.LEFT);
            Expect.due("dock(1, 0, " + side + ")", x.dock(1, 0, side), 1);
            boolean behind = side == DockTree.RIGHT || side == DockTree.BELOW;
            Expect.groups(x, behind ? 0 : 1, behind ? 1 : 0);
            Expect.due("split(0, 0, 0)", x.split(0, 0, 0), side == DockTree.ABOVE || side == DockTree.BELOW ? 1 : 0);
            Expect.due("pane(0, 10)", x.pane(0, 10), 1);
            Expect.due("pane(1, 10)", x.pane(1, 10), 1);
            Expect.due("pane(1, 2)", x.pane(1, 2), DockTree.DOCKED);
            x.undo();
            Expect.groups(x, 0);
        }
    }

    // A side of the split's direction: directly before or behind the target, with its weight.
    private static void besideInSplit() {
        DockTree x = Expect.with(1, 1, 1, 1, 1, 1, 1, 1, 1, 1);
        x.dockAtEdge(0, DockTree.LEFT);
        x.dock(1, 0, DockTree.RIGHT);
        x.setShare(0, 7);
        x.setShare(1, 9);
        x.dock(2, 0, DockTree.RIGHT);
        Expect.groups(x, 0, 2, 1);
        Expect.due("weight of pane 2", x.pane(2, 10), 7);
        x.dock(3, 1, DockTree.LEFT);
        Expect.groups(x, 0, 2, 3, 1);
        Expect.due("weight of pane 3", x.pane(3, 10), 9);
        x.dock(4, 0, DockTree.LEFT);
        Expect.groups(x, 4, 0, 2, 3, 1);
        Expect.due("weight of pane 4", x.pane(4, 10), 7);
        Expect.due("splits", x.whole(6), 1);
        Expect.due("which child leads to pane 3", x.split(3, 0, 2), 3);
    }

    // A side of the other direction: a new split takes the place and the weight.
    private static void newSplitTakesWeight() {
        DockTree x = Expect.with(1, 1, 1, 1, 1, 1);
        x.dockAtEdge(0, DockTree.LEFT);
        x.dock(1, 0, DockTree.RIGHT);
        x.setShare(0, 2);
        x.dock(2, 0, DockTree.ABOVE);
        Expect.groups(x, 2, 0, 1);
        Expect.due("weight of pane 0", x.pane(0, 10), 1);
        Expect.due("weight of pane 2", x.pane(2, 10), 1);
        // 99 cells by the weights 2 and 1.
        Expect.due("width of pane 0", x.pane(0, 5), 66);
        Expect.due("width of pane 1", x.pane(1, 5), 33);
        Expect.due("splits above pane 0", x.pane(0, 11), 2);
        Expect.due("splits above pane 1", x.pane(1, 11), 1);
    }

    private static void splitsAreNotJoined() {
        DockTree x = Expect.with(1, 1, 1, 1, 1, 1, 1, 1);
        x.dockAtEdge(0, DockTree.LEFT);
        x.dock(1, 0, DockTree.RIGHT);
        x.dock(2, 1, DockTree.BELOW);
        x.dock(3, 2, DockTree.RIGHT);
        x.setShare(2, 5);
        x.close(1);
        Expect.groups(x, 0, 2, 3);
        Expect.due("splits", x.whole(6), 2);
        Expect.due("direction of the lower split", x.split(3, 0, 0), 0);
        Expect.due("direction of the upper split", x.split(3, 1, 0), 0);
        Expect.due("children of the upper split", x.split(3, 1, 1), 2);
        Expect.due("weight in the lower split", x.pane(2, 10), 5);
        // 99 cells: 50 and 49; of these 48 by the weights 5 and 1.
        Expect.box(x, 0, 0, 1, 50, 59);
        Expect.box(x, 2, 51, 1, 40, 59);
        Expect.box(x, 3, 92, 1, 8, 59);
    }

    private static void lastChildTakesSplitsWeight() {
        DockTree x = Expect.with(1, 1, 1, 1, 1, 1);
        x.dockAtEdge(0, DockTree.LEFT);
        x.dock(1, 0, DockTree.RIGHT);
        x.setShare(1, 30);
        x.dock(2, 1, DockTree.BELOW);
        x.setShare(1, 4);
        Expect.due("close(2)", x.close(2), DockTree.DOCKED);
        Expect.due("weight of the last child", x.pane(1, 10), 30);
        Expect.due("splits", x.whole(6), 1);
    }

    private static void lastChildBecomesRoot() {
        DockTree x = Expect.with(1, 1, 1, 1);
        x.dockAtEdge(0, DockTree.LEFT);
        x.dock(1, 0, DockTree.RIGHT);
        x.setShare(1, 30);
        x.close(0);
        Expect.due("weight of the root", x.pane(1, 10), DockTree.NONE);
        Expect.due("splits", x.whole(6), 0);
        Expect.box(x, 1, 0, 1, 100, 59);
        x.dock(0, 1, DockTree.LEFT);
        Expect.due("weight in the new split", x.pane(1, 10), 1);
    }

    private static void takenAwayFirst() {
        DockTree x = Expect.with(1, 1, 1, 1, 1, 1);
        x.dockAtEdge(0, DockTree.LEFT);
        x.dock(1, 0, DockTree.RIGHT);
        // Without pane 1 the root is a group again, so this makes a new split.
        x.dock(1, 0, DockTree.BELOW);
        Expect.groups(x, 0, 1);
        Expect.due("splits", x.whole(6), 1);
        Expect.due("direction", x.split(0, 0, 0), 1);
        // A pane leaves the group of its target.
        x.dock(2, 1, DockTree.TAB);
        Expect.due("dock(2, 1, LEFT)", x.dock(2, 1, DockTree.LEFT), 1);
        Expect.groups(x, 0, 2, 1);
        Expect.tabs(x, 1, 1, 1);
        // Pane 0 leaves its split, which takes in the one of panes 2 and 1 as root.
        x.dock(0, 2, DockTree.RIGHT);
        Expect.groups(x, 2, 0, 1);
        Expect.due("splits behind moving pane 0", x.whole(6), 1);
        // Places are counted without the pane that moves.
        x.dock(2, 1, DockTree.RIGHT);
        Expect.groups(x, 0, 1, 2);
    }

    // Groups and splits come and go without an end to them; 16 groups in 15 splits are the most.
    private static void againAndAgain() {
        DockTree x = new DockTree();
        for (int k = 0; k < 16; k++) {
            x.addPane(1, 1);
        }
        for (int round = 0; round < 5; round++) {
            x.dockAtEdge(0, DockTree.LEFT);
            for (int k = 1; k < 16; k++) {
                x.dock(k, k - 1, k % 2 == 0 ? DockTree.BELOW : DockTree.RIGHT);
            }
            Expect.groups(x, 0, 1, 2, 3, 4, 5, 6, 7, 8, 9, 10, 11, 12, 13, 14, 15);
            Expect.due("splits of 16 groups", x.whole(6), 15);
            Expect.due("splits above pane 15", x.pane(15, 11), 15);
            for (int k = 0; k < 16; k++) {
                x.close(k);
                Expect.due("splits without pane " + k, x.whole(6), Math.max(0, 14 - k));
            }
            Expect.groups(x);
        }
    }

    private static void asTab() {
        DockTree x = Expect.with(1, 1, 1, 1, 1, 1);
        x.dockAtEdge(0, DockTree.LEFT);
        Expect.due("dock(1, 0, TAB)", x.dock(1, 0, DockTree.TAB), 2);
        Expect.due("dock(2, 1, TAB)", x.dock(2, 1, DockTree.TAB), 3);
        Expect.tabs(x, 0, 2, 0, 1, 2);
        Expect.due("dock(0, 1, TAB) in the same group", x.dock(0, 1, DockTree.TAB), 3);
        Expect.tabs(x, 1, 0, 1, 2, 0);
        Expect.due("dock(0, 2, TAB) of the last tab", x.dock(0, 2, DockTree.TAB), 3);
        Expect.tabs(x, 1, 0, 1, 2, 0);
        x.floatAt(2, 1, 1, 9, 9);
        Expect.due("dock(0, 2, TAB) at a floating pane", x.dock(0, 2, DockTree.TAB), 2);
        Expect.tabs(x, 2, 0, 2, 0);
        Expect.due("state of pane 0", x.pane(0, 2), DockTree.FLOATING);
        x.undo();
        Expect.tabs(x, 1, 0, 1, 0);
    }

    private static void wrongDocking() {
        DockTree x = Expect.with(1, 1, 1, 1, 1, 1);
        x.dockAtEdge(0, DockTree.LEFT);
        x.floatAt(1, 0, 0, 5, 5);
        Expect.outOfBounds("dock(3, 3, 9)", x, () -> x.dock(3, 3, 9));
        Expect.outOfBounds("dock(-1, 0, 0)", x, () -> x.dock(-1, 0, 0));
        Expect.outOfBounds("dock(0, 3, 9)", x, () -> x.dock(0, 3, 9));
        Expect.outOfBounds("dock(0, -1, 0)", x, () -> x.dock(0, -1, 0));
        Expect.badArgument("dock(2, 2, 0) of a closed pane", x, () -> x.dock(2, 2, 0));
        Expect.badArgument("dock(0, 2, 5) at a closed pane", x, () -> x.dock(0, 2, 5));
        Expect.badArgument("dock(1, 0, -1)", x, () -> x.dock(1, 0, -1));
        Expect.badState("dock(0, 2, TAB) at a closed pane", x, () -> x.dock(0, 2, DockTree.TAB));
        Expect.badState("dock(0, 2, LEFT) at a closed pane", x, () -> x.dock(0, 2, DockTree.LEFT));
        for (int side = DockTree.LEFT; side <= DockTree.BELOW; side++) {
            int at = side;
            Expect.badState("dock(0, 1, " + side + ") at a floating pane", x, () -> x.dock(0, 1, at));
        }
    }

    private static void atEdge() {
        DockTree x = Expect.with(1, 1, 1, 1, 1, 1, 1, 1, 1, 1);
        Expect.due("dockAtEdge(0, BELOW) into nothing", x.dockAtEdge(0, DockTree.BELOW), 1);
        Expect.due("splits", x.whole(6), 0);
        Expect.due("dockAtEdge(1, ABOVE)", x.dockAtEdge(1, DockTree.ABOVE), 2);
        Expect.groups(x, 1, 0);
        x.setShare(1, 11);
        x.setShare(0, 12);
        Expect.due("dockAtEdge(2, BELOW)", x.dockAtEdge(2, DockTree.BELOW), 3);
        Expect.groups(x, 1, 0, 2);
        Expect.due("weight at the end", x.pane(2, 10), 12);
        Expect.due("dockAtEdge(3, ABOVE)", x.dockAtEdge(3, DockTree.ABOVE), 4);
        Expect.groups(x, 3, 1, 0, 2);
        Expect.due("weight at the start", x.pane(3, 10), 11);
        Expect.due("splits of one direction", x.whole(6), 1);
        Expect.due("dockAtEdge(4, RIGHT)", x.dockAtEdge(4, DockTree.RIGHT), 5);
        Expect.groups(x, 3, 1, 0, 2, 4);
        Expect.due("direction of the new root", x.split(4, 0, 0), 0);
        Expect.due("which child leads to pane 3", x.split(3, 1, 2), 0);
        Expect.due("weight beside the old root", x.pane(4, 10), 1);
        // Panes 0 to 3 get 50 of 99 columns, so the old root has the weight 1 too.
        Expect.due("width of pane 3", x.pane(3, 5), 50);
        x.undo();
        Expect.due("dockAtEdge(4, LEFT)", x.dockAtEdge(4, DockTree.LEFT), 5);
        Expect.groups(x, 4, 3, 1, 0, 2);
    }

    private static void atEdgeWithoutRest() {
        DockTree x = Expect.with(1, 1, 1, 1);
        x.dockAtEdge(0, DockTree.LEFT);
        Expect.due("dockAtEdge of the only pane", x.dockAtEdge(0, DockTree.RIGHT), 1);
        Expect.due("splits", x.whole(6), 0);
        x.dock(1, 0, DockTree.TAB);
        Expect.due("dockAtEdge of a tab of the root", x.dockAtEdge(0, DockTree.RIGHT), 2);
        Expect.groups(x, 1, 0);
        Expect.due("dockAtEdge of one of two", x.dockAtEdge(0, DockTree.ABOVE), 2);
        Expect.groups(x, 0, 1);
        x.setShare(0, 40);
        // Without pane 0 the root is a group again, so this makes a new split, with the weight 1.
        x.dockAtEdge(0, DockTree.BELOW);
        Expect.due("weight of pane 0", x.pane(0, 10), 1);
        x.floatAt(1, 0, 0, 5, 5);
        Expect.due("dockAtEdge of a floating pane", x.dockAtEdge(1, DockTree.LEFT), 2);
        Expect.floating(x);
        x.undo();
        Expect.floating(x, 1);
    }

    private static void wrongEdge() {
        DockTree x = Expect.with(1, 1);
        Expect.outOfBounds("dockAtEdge(1, 9)", x, () -> x.dockAtEdge(1, 9));
        Expect.outOfBounds("dockAtEdge(-1, 0)", x, () -> x.dockAtEdge(-1, 0));
        Expect.badArgument("dockAtEdge(0, -1)", x, () -> x.dockAtEdge(0, -1));
        Expect.badArgument("dockAtEdge(0, TAB)", x, () -> x.dockAtEdge(0, DockTree.TAB));
    }
}
