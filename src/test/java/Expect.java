import java.util.function.LongSupplier;

/** Compares answers with those that are due, and counts the wrong ones. */
final class Expect {
    private static int wrong = 0;
    private static int compared = 0;

    private Expect() {
    }

    static void due(String what, long got, long want) {
        compared++;
        if (got != want) {
            wrong++;
            System.out.println(what + " answered " + got + ", due is " + want);
        }
    }

    static void outOfBounds(String what, DockTree x, LongSupplier call) {
        refused(what, x, call, IndexOutOfBoundsException.class);
    }

    static void badArgument(String what, DockTree x, LongSupplier call) {
        refused(what, x, call, IllegalArgumentException.class);
    }

    static void badState(String what, DockTree x, LongSupplier call) {
        refused(what, x, call, IllegalStateException.class);
    }

    /** The call must throw an exception of exactly this class, and must change nothing. */
    private static void refused(String what, DockTree x, LongSupplier call, Class<?> due) {
        compared++;
        long before = x.digest();
        String got;
        try {
            got = "answered " + call.getAsLong();
        } catch (RuntimeException e) {
            got = e.getClass() == due ? "" : "threw " + e.getClass().getName();
        }
        if (!got.isEmpty()) {
            wrong++;
            System.out.println(what + " " + got + ", due is " + due.getName());
        }
        due("digest() behind the refused " + what, x.digest(), before);
    }

    static void box(DockTree x, int pane, int column, int row, int width, int height) {
        String name = "the box of pane " + pane + ", value ";
        due(name + 3, x.pane(pane, 3), column);
        due(name + 4, x.pane(pane, 4), row);
        due(name + 5, x.pane(pane, 5), width);
        due(name + 6, x.pane(pane, 6), height);
    }

    static void tabs(DockTree x, int pane, int active, int... tabs) {
        due("number of tabs of pane " + pane, x.pane(pane, 9), tabs.length);
        for (int k = 0; k < tabs.length; k++) {
            due("tab(" + pane + ", " + k + ")", x.tab(pane, k), tabs[k]);
            due("pane(" + tabs[k] + ", 7)", x.pane(tabs[k], 7), tabs[k] == active ? 1 : 0);
            due("pane(" + tabs[k] + ", 8)", x.pane(tabs[k], 8), k);
        }
        due("tab behind the last one of pane " + pane, x.tab(pane, tabs.length), DockTree.NONE);
    }

    /** The active panes of the groups of the tree, in their order. */
    static void groups(DockTree x, int... actives) {
        due("whole(5)", x.whole(5), actives.length);
        for (int k = 0; k < actives.length; k++) {
            due("group(" + k + ")", x.group(k), actives[k]);
        }
        due("group behind the last one", x.group(actives.length), DockTree.NONE);
    }

    /** The active panes of the floating groups, from the lowest one on. */
    static void floating(DockTree x, int... actives) {
        due("whole(7)", x.whole(7), actives.length);
        for (int k = 0; k < actives.length; k++) {
            due("floating(" + k + ")", x.floating(k), actives[k]);
        }
        due("floating group behind the last one", x.floating(actives.length), DockTree.NONE);
    }

    /** A new object with panes of these least sizes: width, height, width, height ... */
    static DockTree with(int... least) {
        DockTree x = new DockTree();
        for (int k = 0; k + 1 < least.length; k += 2) {
            x.addPane(least[k], least[k + 1]);
        }
        return x;
    }

    /** A new object with as many panes of the least size 1, none of them docked. */
    static DockTree closed(int panes) {
        DockTree x = new DockTree();
        for (int k = 0; k < panes; k++) {
            x.addPane(1, 1);
        }
        return x;
    }

    /** A new object with panes of these least widths and the least height 1, one beside the other. */
    static DockTree row(int... widths) {
        DockTree x = new DockTree();
        for (int k = 0; k < widths.length; k++) {
            x.addPane(widths[k], 1);
            x.dockAtEdge(k, DockTree.RIGHT);
        }
        return x;
    }

    /** Calls that change nothing fill the undo stack, so that undoing them leaves it empty, and all else as it was. */
    static void emptyUndoStack(DockTree x) {
        for (int k = 0; k < 4; k++) {
            x.setWindow(x.whole(0), x.whole(1));
        }
        for (int k = 3; k >= 0; k--) {
            due("undo() that empties the stack", x.undo(), k);
        }
    }

    static void type(DockTree x, String text) {
        for (int k = 0; k < text.length(); k++) {
            x.type(text.charAt(k));
        }
    }

    /** What running this text answers, with the command text empty before and behind it. */
    static int run(DockTree x, String text) {
        x.clearCommands();
        type(x, text);
        int answer = x.runCommands();
        x.clearCommands();
        return answer;
    }

    static void end() {
        System.out.println(compared + " comparisons, " + wrong + " wrong");
        if (wrong != 0) {
            System.exit(1);
        }
    }
}
