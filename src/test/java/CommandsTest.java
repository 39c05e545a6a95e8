/** Promises 26, 27 and 28: type, clearCommands, runCommands. */
public final class CommandsTest {
    private CommandsTest() {
    }

    public static void main(String[] args) {
        type();
        clearCommands();
        emptyText();
        everyCommand();
        faults();
        faultsDoNothing();
        untilAnException();
        oneState();
        textStays();
        longestText();
        Expect.end();
    }

    private static void type() {
        DockTree x = new DockTree();
        Expect.badArgument("type(-1)", x, () -> x.type(-1));
        Expect.badArgument("type(128)", x, () -> x.type(128));
        for (int k = 1; k <= 150; k++) {
            Expect.due("type number " + k, x.type(k < 128 ? k : 0), k);
        }
        Expect.badState("type(32) with 150 bytes", x, () -> x.type(32));
        Expect.badArgument("type(128) with 150 bytes", x, () -> x.type(128));
        // Neither typing nor clearing is undoable.
        Expect.badState("undo()", x, () -> x.undo());
        Expect.due("clearCommands()", x.clearCommands(), 150);
        Expect.due("type(127)", x.type(127), 1);
    }

    private static void clearCommands() {
        DockTree x = new DockTree();
        Expect.due("clearCommands() of an empty text", x.clearCommands(), 0);
        Expect.type(x, "pane 1 2;");
        Expect.due("clearCommands()", x.clearCommands(), 9);
        Expect.due("clearCommands() again", x.clearCommands(), 0);
        Expect.due("runCommands()", x.runCommands(), 0);
        Expect.due("panes", x.whole(2), 0);
    }

    private static void emptyText() {
        DockTree x = new DockTree();
        Expect.due("run of nothing", Expect.run(x, ""), 0);
        Expect.due("run of spaces", Expect.run(x, "   "), 0);
        // Both runs have saved a state.
        Expect.due("undo()", x.undo(), 1);
    }

    private static void everyCommand() {
        DockTree x = new DockTree();
        Expect.due("run", Expect.run(x, "pane 10 5;pane 20 6;  pane  30   7  ;pane 4 4; edge 0 0;dock 1 0 1;edge 2 3;"), 7);
        Expect.groups(x, 0, 1, 2);
        Expect.due("least width", x.pane(2, 0), 30);
        Expect.due("run", Expect.run(x, "float 3 007 8 009 10;share 0 999;save 2;close 0;close 3; "), 5);
        Expect.groups(x, 1, 2);
        Expect.floating(x);
        Expect.due("run", Expect.run(x, "load 2;dock 2 3 4;"), 2);
        Expect.due("weight", x.pane(0, 10), 999);
        Expect.tabs(x, 3, 2, 3, 2);
        Expect.box(x, 3, 7, 9, 9, 9);
        Expect.groups(x, 0, 1);
    }

    private static void faults() {
        fault("pan 1 2;", 0);
        fault("panel 1 2;", 0);
        fault("  xyz", 2);
        fault("panez 1 2;", 0);
        fault("zpane 1 2;", 0);
        fault("Pane 1 2;", 0);
        fault("paneX 1 2;", 4);
        fault("1", 0);
        fault(";", 0);
        fault("pane 1 2;;", 9);
        fault("pane", 4);
        fault("pane;", 4);
        fault("pane1 2;", 4);
        fault("pane ", 5);
        fault("pane ;", 5);
        fault("pane -1 2;", 5);
        fault("pane 1", 6);
        fault("pane 1;", 6);
        fault("pane 1 ;", 7);
        fault("pane 1 2", 8);
        fault("pane 1 2 ", 9);
        fault("pane 1 2 3;", 9);
        fault("pane 1 2x;", 8);
        fault("pane 1234 2;", 8);
        fault("pane 1 0001;", 10);
        fault("pane 1 2;pane 3 4;edg 1", 18);
        fault("pane 1 2;pane 3 4;edge 1 0", 26);
        fault("save 1 1;", 7);
        fault("load ; ", 5);
        fault("float 1 2 3 4;", 13);
        fault("float 1 2 3 4 5 6;", 16);
        fault("dock 1 2;", 8);
        fault("dock 1 2 3 4;", 11);
        fault("close 1 1;", 8);
        fault("share 1;", 7);
        fault("share 1 1 1;", 10);
        fault("edge 1;", 6);
        fault("edge 1 1 1;", 9);
        fault("pane 1 2;\t", 9);
        fault("pane\t1 2;", 4);
        fault("pane 1\n2;", 6);
        fault("pane 1 2{", 8);
        fault("pane 1 /;", 7);
        fault("pane 1 :;", 7);
        fault("`", 0);
        fault("pane{1 2;", 4);
    }

    private static void fault(String text, int at) {
        DockTree x = new DockTree();
        Expect.due("run of \"" + text + "\"", Expect.run(x, text), -10 - at);
    }

    private static void faultsDoNothing() {
        DockTree x = Expect.with(1, 1);
        x.undo();
        Expect.type(x, "pane 5 5;edge 0 0;save 0;x");
        long before = x.digest();
        Expect.due("runCommands()", x.runCommands(), -35);
        Expect.due("digest() behind a fault", x.digest(), before);
        Expect.badState("undo() behind a fault", x, () -> x.undo());
    }

    private static void untilAnException() {
        DockTree x = new DockTree();
        Expect.due("bad argument", Expect.run(x, "pane 1 1;pane 61 1;pane 2 2;"), 1);
        Expect.due("panes", x.whole(2), 1);
        Expect.due("no such pane", Expect.run(x, "edge 0 0;edge 1 0;close 0;"), 1);
        Expect.due("root", Expect.run(x, "share 0 5;close 0;"), 0);
        Expect.due("side", Expect.run(x, "pane 1 1;dock 1 0 5;close 0;"), 1);
        Expect.due("itself", Expect.run(x, "dock 1 1 0;close 0;"), 0);
        Expect.due("closed target", Expect.run(x, "dock 0 1 0;close 0;"), 0);
        Expect.due("edge side", Expect.run(x, "edge 0 4;close 0;"), 0);
        Expect.due("box", Expect.run(x, "float 0 400 0 1 1;close 0;"), 0);
        Expect.due("box size", Expect.run(x, "float 0 0 0 1 401;close 0;"), 0);
        Expect.due("close", Expect.run(x, "close 2;close 0;"), 0);
        Expect.due("layout place", Expect.run(x, "save 4;close 0;"), 0);
        Expect.due("no layout", Expect.run(x, "save 3;load 2;close 0;"), 1);
        Expect.due("load place", Expect.run(x, "load 4;close 0;"), 0);
        Expect.due("weight", Expect.run(x, "dock 1 0 0;share 1 0;close 0;"), 1);
        Expect.groups(x, 1, 0);
    }

    private static void oneState() {
        DockTree x = new DockTree();
        Expect.run(x, "pane 1 1;pane 2 2;edge 0 0;edge 1 0;save 0;close 0;");
        Expect.due("undo()", x.undo(), 0);
        Expect.due("panes behind undo", x.whole(2), 0);
        // A run of which the first command would throw saves a state, too.
        Expect.due("run", Expect.run(x, "close 9;"), 0);
        Expect.due("undo()", x.undo(), 0);
    }

    private static void textStays() {
        DockTree x = new DockTree();
        Expect.type(x, "pane 3 4;");
        Expect.due("runCommands()", x.runCommands(), 1);
        Expect.due("runCommands() again", x.runCommands(), 1);
        Expect.due("panes", x.whole(2), 2);
        x.undo();
        Expect.due("type behind undo", x.type(' '), 10);
        Expect.due("runCommands() behind undo", x.runCommands(), 1);
        Expect.due("panes", x.whole(2), 2);
    }

    private static void longestText() {
        DockTree x = new DockTree();
        Expect.due("21 commands", Expect.run(x, "save 0;".repeat(21) + "   "), 21);
        Expect.due("a text that ends too soon at 150 bytes", Expect.run(x, "save 0;".repeat(21) + "sav"), -10 - 147);
        Expect.due("a known word at the end of 150 bytes", Expect.run(x, "save 0;".repeat(20) + "      save"), -10 - 150);
        Expect.due("150 letters", Expect.run(x, "a".repeat(150)), -10);
    }
}
