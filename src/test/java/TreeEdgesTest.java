/**
 * The boundary cases of the terms of the document about the window, its tree, least sizes, the sharing of cells and
 * docking: one test for each sentence that names one.
 */
public final class TreeEdgesTest {
    private TreeEdgesTest() {
    }

    public static void main(String[] args) {
        noPaneIsDocked();
        sixteenPanesInOneRow();
        sixteenPanesInOneColumn();
        sixteenTabs();
        lastPaneTakenAwayByEachCall();
        splitThatIsLeftGetsWeight();
        splitThatIsLeftBecomesRoot();
        splitsInEachOtherStayTwo();
        lastTabActiveBehindLastOne();
        leastSizeOfGroup();
        leastSizeOfSplit();
        noCellForDividersAlone();
        lessCellsThanDividers();
        leastSizesFitJust();
        moreCellsLeftThanNone();
        allButOneGetLeastSizes();
        justTheLeastSize();
        leastAndGreatestWeight();
        groupOfOneRow();
        targetIsLeftAlone();
        ownGroupAsTab();
        directionOfTheSplitAbove();
        edgeWithoutTheFirstChild();
        edgeBesideSplit();
        edgeOfFormerChild();
        dragLeavesLeastSizes();
        dragOfMiddleDivider();
        dragInSplitOfDragged();
        Expect.end();
    }

    private static void widths(DockTree x, int... widths) {
        for (int k = 0; k < widths.length; k++) {
            Expect.due("width of pane " + k, x.pane(k, 5), widths[k]);
        }
    }

    // "a tree, which is empty as long as no pane is docked"
    private static void noPaneIsDocked() {
        DockTree x = Expect.closed(2);
        x.floatAt(0, 0, 0, 5, 5);
        x.dockAtEdge(1, DockTree.ABOVE);
        Expect.due("state of the last docked pane", x.close(1), DockTree.DOCKED);
        int[] values = {100, 60, 2, 0, 1, 0, 0, 1, 0, 0, 0, 0};
        for (int what = 0; what <= 11; what++) {
            Expect.due("whole(" + what + ") of an empty tree", x.whole(what), values[what]);
        }
        Expect.groups(x);
        Expect.due("paneAt without a tree", x.paneAt(50, 50), DockTree.NONE);
        Expect.due("paneAt of a floating pane without a tree", x.paneAt(4, 4), 0);
        Expect.due("tightIn without a tree", x.tightIn(20, 20), 0);
        Expect.badState("dock at a pane without a tree", x, () -> x.dock(0, 1, DockTree.LEFT));
        Expect.due("dockAtEdge into an empty tree", x.dockAtEdge(0, DockTree.RIGHT), 1);
        Expect.box(x, 0, 0, 1, 100, 59);
    }

    // "There are at most 16 panes"; each needs its least size, and a split a divider less than children.
    private static void sixteenPanesInOneRow() {
        DockTree x = Expect.row(60, 60, 60, 60, 60, 60, 60, 60, 60, 60, 60, 60, 60, 60, 60, 60);
        Expect.due("groups", x.whole(5), 16);
        Expect.due("least width of the root", x.whole(8), 16 * 60 + 15);
        Expect.due("least height of the root", x.whole(9), 2);
        Expect.due("children", x.split(15, 0, 1), 16);
        Expect.due("which child leads to pane 15", x.split(15, 0, 2), 15);
        Expect.due("cells of dividers", x.whole(11), 15 * 60);
        // 85 cells: 5 each, and the 5 that are left.
        widths(x, 6, 6, 6, 6, 6, 5, 5, 5, 5, 5, 5, 5, 5, 5, 5, 5);
        // 5 cells: none each, and the 5 that are left.
        x.setWindow(20, 20);
        widths(x, 1, 1, 1, 1, 1, 0, 0, 0, 0, 0, 0, 0, 0, 0, 0, 0);
        Expect.due("column of pane 5", x.pane(5, 3), 10);
        Expect.due("column of pane 15", x.pane(15, 3), 20);
        Expect.due("paneAt of the last cell of pane 4", x.paneAt(8, 19), 4);
        for (int column = 9; column < 20; column++) {
            Expect.due("paneAt on the dividers of panes without cells", x.paneAt(column, 0), DockTree.NONE);
        }
    }

    private static void sixteenPanesInOneColumn() {
        DockTree x = new DockTree();
        for (int k = 0; k < 16; k++) {
            x.addPane(1, 60);
            x.dockAtEdge(k, DockTree.ABOVE);
        }
        Expect.groups(x, 15, 14, 13, 12, 11, 10, 9, 8, 7, 6, 5, 4, 3, 2, 1, 0);
        Expect.due("least width of the root", x.whole(8), 1);
        Expect.due("least height of the root", x.whole(9), 16 * 61 + 15);
        Expect.due("tightIn(400, 400)", x.tightIn(400, 400), 1);
        Expect.due("cells of dividers", x.whole(11), 15 * 100);
    }

    private static void sixteenTabs() {
        DockTree x = Expect.closed(16);
        x.dockAtEdge(0, DockTree.LEFT);
        for (int k = 1; k < 16; k++) {
            Expect.due("dock as tab number " + k, x.dock(k, 0, DockTree.TAB), k + 1);
        }
        Expect.tabs(x, 3, 15, 0, 1, 2, 3, 4, 5, 6, 7, 8, 9, 10, 11, 12, 13, 14, 15);
        Expect.due("moveTab from the first to the last place", x.moveTab(0, 15), 0);
        Expect.due("moveTab from the last to the first place", x.moveTab(0, 0), 15);
        Expect.badArgument("moveTab behind the last place", x, () -> x.moveTab(0, 16));
        Expect.due("dock of the first tab as the last one", x.dock(0, 15, DockTree.TAB), 16);
        Expect.tabs(x, 3, 0, 1, 2, 3, 4, 5, 6, 7, 8, 9, 10, 11, 12, 13, 14, 15, 0);
    }

    // "When the last pane of a group is taken away, the group is taken out of the tree."
    private static void lastPaneTakenAwayByEachCall() {
        DockTree x = Expect.row(1, 1, 1);
        x.close(1);
        Expect.groups(x, 0, 2);
        widths(x, 50);
        x = Expect.row(1, 1, 1);
        x.floatAt(1, 0, 0, 5, 5);
        Expect.groups(x, 0, 2);
        x = Expect.row(1, 1, 1);
        x.dock(1, 0, DockTree.TAB);
        Expect.groups(x, 1, 2);
        x = Expect.row(1, 1, 1);
        x.dock(1, 2, DockTree.RIGHT);
        Expect.groups(x, 0, 2, 1);
        x = Expect.row(1, 1, 1);
        x.dock(1, 2, DockTree.BELOW);
        Expect.groups(x, 0, 2, 1);
        Expect.due("children of the root", x.split(0, 0, 1), 2);
        x = Expect.row(1, 1, 1);
        x.dockAtEdge(1, DockTree.LEFT);
        Expect.groups(x, 1, 0, 2);
        x = Expect.row(1, 1, 1);
        x.addPane(1, 1);
        x.floatAt(3, 0, 0, 5, 5);
        x.dock(1, 3, DockTree.TAB);
        Expect.groups(x, 0, 2);
        x = Expect.row(1, 1, 1);
        Expect.due("run", Expect.run(x, "close 1;"), 1);
        Expect.groups(x, 0, 2);
        widths(x, 50);
    }

    // "A split of which one child is left is replaced by this child, which gets the weight of the split"
    private static void splitThatIsLeftGetsWeight() {
        DockTree x = Expect.closed(4);
        x.dockAtEdge(0, DockTree.LEFT);
        x.dock(1, 0, DockTree.RIGHT);
        x.setShare(1, 8);
        x.dock(2, 1, DockTree.BELOW);
        x.setShare(2, 5);
        x.dock(3, 2, DockTree.RIGHT);
        // The split of panes 2 and 3 has the weight 5 below pane 1, and gets 8 when pane 1 is gone.
        x.close(1);
        Expect.due("splits", x.whole(6), 2);
        // 99 cells by 1 and 8; 87 of the 88 cells by 1 and 1.
        Expect.box(x, 0, 0, 1, 11, 59);
        Expect.box(x, 2, 12, 1, 44, 59);
        Expect.box(x, 3, 57, 1, 43, 59);
    }

    // "(if it has one)": the split was the root.
    private static void splitThatIsLeftBecomesRoot() {
        DockTree x = Expect.closed(3);
        x.dockAtEdge(0, DockTree.LEFT);
        x.dock(1, 0, DockTree.RIGHT);
        x.dock(2, 1, DockTree.BELOW);
        x.close(0);
        Expect.due("splits", x.whole(6), 1);
        Expect.due("direction of the root", x.split(1, 0, 0), 1);
        Expect.due("split above the root", x.split(1, 1, 0), DockTree.NONE);
        Expect.box(x, 1, 0, 1, 100, 29);
        Expect.box(x, 2, 0, 32, 100, 28);
        x.close(1);
        Expect.due("splits above the last group", x.pane(2, 11), 0);
        Expect.due("split above the last group", x.split(2, 0, 0), DockTree.NONE);
    }

    // "splits of one direction that come to lie in each other are not joined", and docking goes by that.
    private static void splitsInEachOtherStayTwo() {
        DockTree x = Expect.closed(6);
        x.dockAtEdge(0, DockTree.LEFT);
        x.dock(1, 0, DockTree.RIGHT);
        x.dock(2, 1, DockTree.BELOW);
        x.dock(3, 2, DockTree.RIGHT);
        x.close(1);
        x.dock(4, 3, DockTree.RIGHT);
        Expect.due("children of the inner split", x.split(4, 0, 1), 3);
        Expect.due("children of the outer split", x.split(4, 1, 1), 2);
        Expect.due("dockAtEdge(5, RIGHT)", x.dockAtEdge(5, DockTree.RIGHT), 5);
        Expect.due("splits above pane 5", x.pane(5, 11), 1);
        Expect.due("children of the outer split behind dockAtEdge", x.split(5, 0, 1), 3);
        Expect.groups(x, 0, 2, 3, 4, 5);
    }

    // "the tab that comes into its place becomes active, or the last one, if there is none"
    private static void lastTabActiveBehindLastOne() {
        DockTree x = Expect.closed(4);
        x.dockAtEdge(0, DockTree.LEFT);
        for (int k = 1; k < 4; k++) {
            x.dock(k, 0, DockTree.TAB);
        }
        x.close(3);
        Expect.tabs(x, 0, 2, 0, 1, 2);
        x.activate(0);
        x.dockAtEdge(0, DockTree.LEFT);
        Expect.tabs(x, 1, 1, 1, 2);
        x.dock(1, 0, DockTree.TAB);
        Expect.tabs(x, 2, 2, 2);
        Expect.tabs(x, 0, 1, 0, 1);
    }

    // "its least height the greatest one of its panes plus 1 (for the tabs)"
    private static void leastSizeOfGroup() {
        DockTree x = Expect.with(60, 1, 1, 60, 30, 30);
        x.dockAtEdge(0, DockTree.LEFT);
        Expect.due("least width of one pane", x.whole(8), 60);
        Expect.due("least height of one pane", x.whole(9), 2);
        x.dock(1, 0, DockTree.TAB);
        x.dock(2, 0, DockTree.TAB);
        Expect.due("least width of three tabs", x.whole(8), 60);
        Expect.due("least height of three tabs", x.whole(9), 61);
        x.close(0);
        Expect.due("least width without the widest", x.whole(8), 30);
        x.close(1);
        Expect.due("least height without the highest", x.whole(9), 31);
        x.setLeast(2, 1, 1);
        Expect.due("least width of the least pane", x.whole(8), 1);
        Expect.due("least height of the least pane", x.whole(9), 2);
    }

    // "the sum of those of its children plus 1 for each divider; in the other direction the greatest one"
    private static void leastSizeOfSplit() {
        DockTree x = Expect.with(10, 6, 30, 9, 5, 8, 50, 2);
        x.dockAtEdge(0, DockTree.LEFT);
        x.dock(1, 0, DockTree.RIGHT);
        x.dock(2, 1, DockTree.RIGHT);
        Expect.due("least width of three in a row", x.split(0, 0, 3), 10 + 30 + 5 + 2);
        Expect.due("least height of three in a row", x.split(0, 0, 4), 10);
        x.dock(3, 2, DockTree.ABOVE);
        Expect.due("least width of two in a column", x.split(3, 0, 3), 50);
        Expect.due("least height of two in a column", x.split(3, 0, 4), 3 + 9 + 1);
        Expect.due("least width with a column", x.whole(8), 10 + 30 + 50 + 2);
        Expect.due("least height with a column", x.whole(9), 13);
    }

    /** Panes 0 above a row of some panes, all of this in 1 column beside four wide panes. */
    private static DockTree rowInOneColumn(int panes) {
        DockTree x = Expect.with(1, 1, 60, 1, 60, 1, 60, 1, 60, 1);
        x.dockAtEdge(0, DockTree.LEFT);
        for (int k = 1; k <= 4; k++) {
            x.dockAtEdge(k, DockTree.RIGHT);
        }
        x.addPane(1, 1);
        x.dock(5, 0, DockTree.BELOW);
        for (int k = 6; k < 5 + panes; k++) {
            x.addPane(1, 1);
            x.dock(k, k - 1, DockTree.RIGHT);
        }
        x.setWindow(20, 20);
        Expect.due("width of pane 0", x.pane(0, 5), 1);
        return x;
    }

    // "A = the greater one of 0 and E - (n - 1)": just 0.
    private static void noCellForDividersAlone() {
        DockTree x = rowInOneColumn(2);
        Expect.due("width of the split", x.split(5, 0, 5), 1);
        Expect.due("the split without cells is tight", x.split(5, 0, 7), 1);
        Expect.box(x, 5, 0, 12, 0, 8);
        Expect.box(x, 6, 1, 12, 0, 8);
        Expect.due("paneAt on its divider", x.paneAt(0, 15), DockTree.NONE);
    }

    // "A = the greater one of 0 and E - (n - 1)": less than 0.
    private static void lessCellsThanDividers() {
        DockTree x = rowInOneColumn(4);
        Expect.due("the split with too few cells is tight", x.split(5, 0, 7), 1);
        for (int k = 5; k <= 8; k++) {
            Expect.box(x, k, k - 5, 12, 0, 8);
        }
        Expect.due("paneAt of a box on which a divider lies", x.paneAt(2, 15), 1);
    }

    // "If the sum S of their least sizes is at least A, the split is tight": S = A + 1, A, and A - 1.
    private static void leastSizesFitJust() {
        DockTree x = Expect.row(20, 10, 6);
        x.setShare(2, 1000);
        x.setWindow(37, 60);
        Expect.due("35 cells for 36", x.split(0, 0, 7), 1);
        // 35 * 20 / 36 = 19.4, 35 * 10 / 36 = 9.7, 35 * 6 / 36 = 5.8.
        widths(x, 20, 10, 5);
        x.setWindow(38, 60);
        Expect.due("36 cells for 36", x.split(0, 0, 7), 1);
        widths(x, 20, 10, 6);
        Expect.due("tight splits", x.whole(10), 1);
        x.setWindow(39, 60);
        Expect.due("37 cells for 36", x.split(0, 0, 7), 0);
        Expect.due("tight splits", x.whole(10), 0);
        // The one that is more goes by the weights.
        widths(x, 20, 10, 7);
    }

    // "the cells that are left go to the children, one each, from the first one on": none to all but one.
    private static void moreCellsLeftThanNone() {
        DockTree x = Expect.row(60, 60, 60, 60);
        x.setWindow(31, 20);
        widths(x, 7, 7, 7, 7);
        x.setWindow(32, 20);
        widths(x, 8, 7, 7, 7);
        x.setWindow(34, 20);
        widths(x, 8, 8, 8, 7);
        x.setWindow(35, 20);
        widths(x, 8, 8, 8, 8);
        // Not tight, by weights: the same.
        for (int k = 0; k < 4; k++) {
            x.setLeast(k, 1, 1);
        }
        x.setWindow(31, 20);
        widths(x, 7, 7, 7, 7);
        x.setWindow(34, 20);
        widths(x, 8, 8, 8, 7);
    }

    // "all those children get their least sizes and are free no longer ... and so on": a round for each but one.
    private static void allButOneGetLeastSizes() {
        DockTree x = Expect.row(40, 25, 17, 1);
        // 97 cells: 24 each, so 40 and 25; of 32 cells 16 each, so 17; the rest.
        widths(x, 40, 25, 17, 15);
        DockTree y = Expect.row(50, 23, 12, 5, 1);
        // 96 cells: 19 each, so 50 and 23; of 23 cells 7 each, so 12; of 11 cells 5 each, which is enough.
        widths(y, 50, 23, 12, 6, 5);
        y.setShare(4, 1000000);
        // Every other one gets its least size at once.
        widths(y, 50, 23, 12, 5, 6);
    }

    // "If some of these are less than the least size": what is just the least size is not less.
    private static void justTheLeastSize() {
        DockTree x = Expect.row(33, 1, 1);
        x.setWindow(101, 60);
        widths(x, 33, 33, 33);
        // 98 cells: 32 each are less than 33, and the two that are left over go to the free children.
        x.setWindow(100, 60);
        widths(x, 33, 33, 32);
        // 100 cells: 33 each are enough, and the first one gets the one that is left.
        x.setWindow(102, 60);
        widths(x, 34, 33, 33);
    }

    // "Each child of a split has a weight, 1 to 1000000."
    private static void leastAndGreatestWeight() {
        DockTree x = Expect.row(1, 1);
        x.setWindow(400, 20);
        Expect.due("setShare to 1000000", x.setShare(0, 1000000), 1);
        // 399 * 1 / 1000001 is less than 1 cell, the least size.
        widths(x, 398, 1);
        x.setShare(1, 1000000);
        widths(x, 200, 199);
        Expect.due("setShare to 1", x.setShare(0, 1), 1000000);
        widths(x, 1, 398);
        x.drag(0, 397);
        Expect.due("weight behind the widest drag", x.pane(0, 10), 398);
        Expect.due("the least weight behind it", x.pane(1, 10), 1);
    }

    // "the box of each of its panes is (x, y + 1, w, the greater one of 0 and h - 1)": h = 0, 1 and 2.
    private static void groupOfOneRow() {
        DockTree x = new DockTree();
        for (int k = 0; k < 16; k++) {
            x.addPane(1, 1);
            x.dockAtEdge(k, DockTree.BELOW);
        }
        x.setWindow(20, 20);
        // 5 rows: the first five get one, which is for the tabs alone.
        for (int k = 0; k < 5; k++) {
            Expect.box(x, k, 0, 2 * k + 1, 20, 0);
            Expect.due("paneAt on the tabs of pane " + k, x.paneAt(19, 2 * k), k);
            Expect.due("paneAt below the tabs of pane " + k, x.paneAt(0, 2 * k + 1), DockTree.NONE);
        }
        for (int k = 5; k < 16; k++) {
            Expect.box(x, k, 0, k + 6, 20, 0);
        }
        Expect.due("paneAt of the last row", x.paneAt(0, 19), DockTree.NONE);
        for (int k = 1; k < 10; k++) {
            x.close(k + 5);
        }
        // 14 rows for seven: two each.
        Expect.box(x, 0, 0, 1, 20, 1);
        Expect.box(x, 15, 0, 19, 20, 1);
        Expect.due("tight with two rows each", x.whole(10), 1);
    }

    // "first takes it away from where it is (all that follows goes by what there is then)"
    private static void targetIsLeftAlone() {
        DockTree x = Expect.row(1, 1);
        x.setShare(0, 30);
        x.setShare(1, 40);
        // Without pane 0 the target is the root, so this is a new split, with the weights 1.
        x.dock(0, 1, DockTree.RIGHT);
        Expect.groups(x, 1, 0);
        Expect.due("weight of pane 0", x.pane(0, 10), 1);
        Expect.due("weight of pane 1", x.pane(1, 10), 1);
        // Three children stay a split, so the weight is the one of the target.
        DockTree y = Expect.row(1, 1, 1);
        y.setShare(2, 40);
        y.dock(0, 2, DockTree.RIGHT);
        Expect.groups(y, 1, 2, 0);
        Expect.due("weight beside a sibling", y.pane(0, 10), 40);
    }

    // "(also if it was in it already)"
    private static void ownGroupAsTab() {
        DockTree x = Expect.closed(3);
        x.floatAt(0, 0, 0, 5, 5);
        x.dock(1, 0, DockTree.TAB);
        x.dock(2, 0, DockTree.TAB);
        Expect.due("dock of the first tab at its floating group", x.dock(0, 2, DockTree.TAB), 3);
        Expect.tabs(x, 0, 0, 1, 2, 0);
        Expect.due("dock of the last tab at its floating group", x.dock(0, 1, DockTree.TAB), 3);
        Expect.tabs(x, 0, 0, 1, 2, 0);
        x.activate(1);
        Expect.due("dock of a tab that is not active", x.dock(2, 0, DockTree.TAB), 3);
        Expect.tabs(x, 0, 2, 1, 0, 2);
    }

    // "if the target's group is a child of a split of the direction of this side": the one right above it counts.
    private static void directionOfTheSplitAbove() {
        DockTree x = Expect.closed(4);
        x.dockAtEdge(0, DockTree.LEFT);
        x.dock(1, 0, DockTree.RIGHT);
        x.dock(2, 1, DockTree.BELOW);
        x.dock(3, 2, DockTree.RIGHT);
        Expect.due("splits", x.whole(6), 3);
        Expect.due("children of the root", x.split(3, 2, 1), 2);
        Expect.due("splits above pane 3", x.pane(3, 11), 3);
    }

    // "with the weight of the child that was first or last": when the pane is away already.
    private static void edgeWithoutTheFirstChild() {
        DockTree x = Expect.row(1, 1, 1);
        x.setShare(0, 40);
        x.setShare(1, 7);
        x.setShare(2, 9);
        x.dockAtEdge(0, DockTree.LEFT);
        Expect.groups(x, 0, 1, 2);
        Expect.due("weight of the first child again", x.pane(0, 10), 7);
        x.dockAtEdge(2, DockTree.RIGHT);
        Expect.groups(x, 0, 1, 2);
        Expect.due("weight of the last child again", x.pane(2, 10), 7);
        x.setShare(2, 11);
        x.dockAtEdge(0, DockTree.RIGHT);
        Expect.groups(x, 1, 2, 0);
        Expect.due("weight of the first child as the last one", x.pane(0, 10), 11);
    }

    // The child that is first, or last, can be a split.
    private static void edgeBesideSplit() {
        DockTree x = Expect.row(1, 1, 1);
        x.setShare(0, 7);
        x.setShare(2, 9);
        for (int k = 3; k < 7; k++) {
            x.addPane(1, 1);
        }
        x.dock(3, 0, DockTree.BELOW);
        x.dock(4, 2, DockTree.ABOVE);
        x.dockAtEdge(5, DockTree.LEFT);
        x.dockAtEdge(6, DockTree.RIGHT);
        Expect.groups(x, 5, 0, 3, 1, 4, 2, 6);
        Expect.due("weight before a split", x.pane(5, 10), 7);
        Expect.due("weight behind a split", x.pane(6, 10), 9);
        Expect.due("children of the root", x.split(5, 0, 1), 5);
    }

    // "otherwise a new split becomes the root, ... with the weight 1 each": also if the old root had one before.
    private static void edgeOfFormerChild() {
        DockTree x = Expect.row(1, 1);
        x.setShare(1, 30);
        x.addPane(1, 1);
        x.dock(2, 1, DockTree.BELOW);
        x.close(0);
        x.dockAtEdge(0, DockTree.LEFT);
        Expect.groups(x, 0, 1, 2);
        widths(x, 50, 49, 49);
    }

    // "its group or the next child would have fewer cells than its least size": just the least sizes are enough.
    private static void dragLeavesLeastSizes() {
        DockTree x = Expect.row(10, 30, 5);
        Expect.due("drag to the least size of the next child", x.drag(0, 3), 36);
        Expect.badState("drag by one more", x, () -> x.drag(0, 1));
        Expect.due("drag to the least size of the group", x.drag(0, -26), 10);
        Expect.badState("drag by one less", x, () -> x.drag(0, -1));
        Expect.due("drag to the least size of the last child", x.drag(1, 27), 83);
        widths(x, 10, 83, 5);
        Expect.badState("drag by one more", x, () -> x.drag(1, 1));
    }

    // "the weights of all children of its split become the cells": those before the divider, and behind it.
    private static void dragOfMiddleDivider() {
        DockTree x = Expect.row(1, 1, 1, 1);
        // 97 cells: 25, 24, 24, 24.
        Expect.due("drag(1, 4)", x.drag(1, 4), 28);
        int[] weights = {25, 28, 20, 24};
        for (int k = 0; k < 4; k++) {
            Expect.due("weight of pane " + k, x.pane(k, 10), weights[k]);
        }
        widths(x, weights);
        Expect.due("drag(2, -19)", x.drag(2, -19), 1);
        widths(x, 25, 28, 1, 43);
    }

    // "the weights of all children of its split become the cells that they have in the direction": splits too.
    private static void dragInSplitOfDragged() {
        DockTree x = Expect.row(1, 1, 1);
        x.addPane(1, 1);
        x.dock(3, 2, DockTree.BELOW);
        x.setShare(0, 5);
        // 98 cells by 5, 1 and 1: 70, 14, 14.
        Expect.due("drag(0, -10)", x.drag(0, -10), 60);
        widths(x, 60, 24, 14, 14);
        Expect.due("weight of pane 1", x.pane(1, 10), 24);
        // The weights are 60, 24, 14; now 24, 24, 14 of 98 cells: 37.9, 37.9, 22.1.
        x.setShare(0, 24);
        widths(x, 38, 38, 22, 22);
        Expect.due("weight in the column", x.pane(2, 10), 1);
    }
}
