/** The boundary cases of the texts of commands: one test for each sentence of the document that names one. */
public final class TextEdgesTest {
    private static final String[] WORDS = {"pane", "edge", "dock", "float", "close", "share", "save", "load"};
    private static final int[] NUMBERS = {2, 2, 3, 5, 1, 2, 1, 1};
    private static final int FULL = 150;

    private TextEdgesTest() {
    }

    public static void main(String[] args) {
        noTextAndSpacesAlone();
        fullText();
        fullTextThatEndsTooSoon();
        eachWordCutShort();
        eachWordTooLong();
        eachWordWithOtherLetter();
        eachWordWithCapital();
        eachCommandCutShort();
        eachCommandWithoutSpaces();
        oneNumberTooMany();
        zerosInFront();
        spacesWhereTheyMayStand();
        spacesWhereTheyMayNotStand();
        byteAtTheStart();
        byteBehindAWord();
        byteInFrontOfANumber();
        byteBehindADigit();
        byteBehindThreeDigits();
        byteBehindASpaceBehindTheLastNumber();
        byteBehindASemicolon();
        wordIsFoundWhenComplete();
        firstFaultCounts();
        rangesAreNoFault();
        sixteenPanes();
        eachCommandAtItsEdges();
        stopsAtTheFirstThatWouldThrow();
        oneStateForEachRun();
        Expect.end();
    }

    private static void run(String text, int due) {
        Expect.due("run of \"" + text + "\"", Expect.run(new DockTree(), text), due);
    }

    private static void fault(String text, int at) {
        DockTree x = new DockTree();
        x.addPane(5, 5);
        Expect.emptyUndoStack(x);
        Expect.type(x, text);
        long before = x.digest();
        Expect.due("run of \"" + text + "\"", x.runCommands(), -10 - at);
        Expect.due("digest() behind the fault of \"" + text + "\"", x.digest(), before);
        Expect.badState("undo() behind the fault of \"" + text + "\"", x, () -> x.undo());
    }

    /** A byte behind this text is at fault itself, or lets it end too soon, or is fine. */
    private static void byteBehind(String text, String fine, String tooSoon) {
        for (char c = 0; c < 128; c++) {
            String all = text + c;
            if (tooSoon.indexOf(c) >= 0) {
                fault(all, all.length());
            } else if (fine.indexOf(c) < 0) {
                fault(all, text.length());
            } else {
                Expect.due("run of \"" + all + "\" has no fault", Expect.run(new DockTree(), all) >= 0 ? 1 : 0, 1);
            }
        }
    }

    // "perhaps none: a text that is empty, or has spaces alone, has no fault"
    private static void noTextAndSpacesAlone() {
        for (int spaces = 0; spaces <= FULL; spaces += 50) {
            DockTree x = new DockTree();
            Expect.due("run of " + spaces + " spaces", Expect.run(x, " ".repeat(spaces)), 0);
            Expect.due("undo() of a run without commands", x.undo(), 0);
        }
        run(" ", 0);
    }

    // "The command text has at most 150 bytes": all of them can be commands.
    private static void fullText() {
        run("save 0;".repeat(20) + "pane 1  1;", 21);
        run(" ".repeat(FULL - 9) + "pane 1 1;", 1);
        DockTree x = new DockTree();
        Expect.type(x, "save 0;".repeat(20) + "pane 1  1;");
        Expect.badState("type behind 150 bytes", x, () -> x.type(';'));
        Expect.due("runCommands() of 150 bytes", x.runCommands(), 21);
        Expect.due("clearCommands() of 150 bytes", x.clearCommands(), FULL);
        Expect.due("type into the empty text", x.type('s'), 1);
    }

    // "or the length of the text if it ends too soon"
    private static void fullTextThatEndsTooSoon() {
        fault(" ".repeat(FULL - 4) + "save", FULL);
        fault(" ".repeat(FULL - 5) + "save ", FULL);
        fault(" ".repeat(FULL - 6) + "save 1", FULL);
        fault(" ".repeat(FULL - 7) + "save 1 ", FULL);
        fault(" ".repeat(FULL - 7) + "save 11", FULL);
        fault(" ".repeat(FULL - 1) + "s", FULL - 1);
        fault(" ".repeat(FULL - 1) + ";", FULL - 1);
    }

    // "A word that is not one of these is at fault with its first byte": also at the end of the text.
    private static void eachWordCutShort() {
        for (String word : WORDS) {
            for (int length = 1; length < word.length(); length++) {
                fault(word.substring(0, length), 0);
                fault("   " + word.substring(0, length) + " 1", 3);
                fault("save 0;" + word.substring(0, length) + ";", 7);
                fault(word.substring(length) + " 1 1;", 0);
            }
        }
    }

    private static void eachWordTooLong() {
        for (String word : WORDS) {
            for (String more : new String[] {"a", "s", "z", word}) {
                fault(word + more, 0);
                fault(" " + more + word + " 1 1;", 1);
                fault("save 0; " + word + more + " 1 1 1;", 8);
            }
        }
    }

    private static void eachWordWithOtherLetter() {
        for (String word : WORDS) {
            for (int k = 0; k < word.length(); k++) {
                fault(word.substring(0, k) + "q" + word.substring(k + 1) + " 1;", 0);
            }
        }
    }

    // "a word of letters a to z": a capital letter is none of them.
    private static void eachWordWithCapital() {
        for (String word : WORDS) {
            fault(word.substring(0, 1).toUpperCase() + word.substring(1) + " 1 1;", 0);
            fault(word + "A", word.length());
            fault(word + "Z", word.length());
        }
    }

    private static String command(int word) {
        return WORDS[word] + " 1".repeat(NUMBERS[word]) + ";";
    }

    // "or the length of the text if it ends too soon": behind the word there is no end but the semicolon.
    private static void eachCommandCutShort() {
        for (int word = 0; word < WORDS.length; word++) {
            String all = command(word);
            for (int length = WORDS[word].length(); length < all.length(); length++) {
                fault(all.substring(0, length), length);
                fault("save 0; " + all.substring(0, length) + "  ", 8 + length + 2);
            }
            Expect.due("a whole command has no fault: " + all, Expect.run(new DockTree(), all) >= 0 ? 1 : 0, 1);
        }
    }

    // "and with at least one space (byte 32) in front"
    private static void eachCommandWithoutSpaces() {
        for (String word : WORDS) {
            fault(word + "1;", word.length());
            fault(word + "\t1;", word.length());
            fault(word + ";", word.length());
            fault(word + " ;", word.length() + 1);
        }
    }

    private static void oneNumberTooMany() {
        for (int word = 0; word < WORDS.length; word++) {
            String all = command(word);
            String more = all.substring(0, all.length() - 1) + " 1;";
            fault(more, all.length());
            int less = all.length() - 3;
            if (NUMBERS[word] > 1) {
                fault(all.substring(0, less) + ";", less);
            }
        }
    }

    // "each of one to three digits (zeros in front are allowed; a fourth digit cannot stand)"
    private static void zerosInFront() {
        run("save 000;", 1);
        run("save 03;", 1);
        run("save 003;", 1);
        run("save 004;", 0);
        fault("save 0003;", 8);
        fault("save 0000;", 8);
        fault("save 1000", 8);
        fault("pane 0010 1;", 8);
        fault("pane 1 0060;", 10);
        DockTree x = new DockTree();
        Expect.due("run with zeros in front", Expect.run(x, "pane 060 007;float 000 399 099 400 040;"), 2);
        Expect.due("least width of 060", x.pane(0, 0), 60);
        Expect.due("least height of 007", x.pane(0, 1), 7);
        Expect.box(x, 0, 399, 100, 400, 39);
    }

    // "Spaces may also stand in front of a command, in front of a semicolon, and at the end."
    private static void spacesWhereTheyMayStand() {
        run("   pane   5   6   ;   pane 1 2 ; save    1;   ", 3);
        run("save 1 ;", 1);
        run(" save 1;", 1);
        run("save 1; ", 1);
        run("save 1;save 2;", 2);
    }

    private static void spacesWhereTheyMayNotStand() {
        fault("sa ve 1;", 0);
        fault("save 1 1;", 7);
        fault("save 1 ; ;", 9);
        fault("pane 6 0 5;", 9);
    }

    private static void byteAtTheStart() {
        for (char c = 0; c < 128; c++) {
            if (c != ' ') {
                fault("" + c, 0);
                fault("  " + c + " 1;", 2);
            }
        }
    }

    // Behind "save" a letter makes another word, at fault with its first byte; only a space can stand.
    private static void byteBehindAWord() {
        for (char c = 0; c < 128; c++) {
            boolean letter = c >= 'a' && c <= 'z';
            fault("save" + c, letter ? 0 : c == ' ' ? 5 : 4);
            if (c != 'e') {
                fault("save 1;  sav" + c, 9);
            }
        }
    }

    private static void byteInFrontOfANumber() {
        byteBehind("save ", "", " 0123456789");
        byteBehind("pane 1 ", "", " 0123456789");
    }

    private static void byteBehindADigit() {
        byteBehind("save 1", ";", " 0123456789");
        byteBehind("save 12", ";", " 0123456789");
        byteBehind("pane 1", "", " 0123456789");
        byteBehind("pane 1 2", ";", " 0123456789");
    }

    private static void byteBehindThreeDigits() {
        byteBehind("save 123", ";", " ");
        byteBehind("pane 123", "", " ");
        byteBehind("pane 1 000", ";", " ");
    }

    private static void byteBehindASpaceBehindTheLastNumber() {
        byteBehind("save 1 ", ";", " ");
        byteBehind("float 1 2 3 4 5  ", ";", " ");
    }

    private static void byteBehindASemicolon() {
        for (char c = 0; c < 128; c++) {
            if (c == ' ') {
                run("save 1;" + c, 1);
            } else {
                fault("save 1;" + c, 7);
            }
        }
    }

    // "found when the word is complete: when a byte that is no letter, or the end of the text, follows it"
    private static void wordIsFoundWhenComplete() {
        fault("savepane", 0);
        fault("savepane 1;", 0);
        fault("sav\u0000", 0);
        fault("sav;", 0);
        fault("sav1", 0);
        fault("save\u0000", 4);
        fault("a".repeat(FULL), 0);
        fault(" " + "z".repeat(FULL - 1), 1);
        fault("x save 1;", 0);
    }

    // "the index of the first byte that cannot stand at its place"
    private static void firstFaultCounts() {
        fault("save 1;;;", 7);
        fault("save x;sav 1;", 5);
        fault("sav x;save 1;", 0);
        fault("save 1;save 1,save", 13);
        fault("pane 1 2;pane 1 2;pane 1", 24);
    }

    // "(That a number is out of its range is no fault.)"
    private static void rangesAreNoFault() {
        run("pane 0 1;", 0);
        run("pane 999 999;", 0);
        run("edge 999 999;", 0);
        run("dock 0 0 0;", 0);
        run("float 0 999 999 999 999;", 0);
        run("close 999;", 0);
        run("share 0 0;", 0);
        run("save 999;", 0);
        run("load 999;", 0);
        run("load 0;", 0);
    }

    // "until one of them would throw an exception": the pane number 17.
    private static void sixteenPanes() {
        DockTree x = new DockTree();
        Expect.due("run of 16 panes", Expect.run(x, "pane 1 1;".repeat(16)), 16);
        Expect.due("run of another pane", Expect.run(x, "pane 1 1;edge 0 0;"), 0);
        Expect.due("run of another pane out of range", Expect.run(x, "pane 0 1;"), 0);
        Expect.due("panes", x.whole(2), 16);
        x.undo();
        x.undo();
        Expect.due("undo() of 16 panes", x.undo(), 0);
        Expect.due("panes behind undo", x.whole(2), 0);
        Expect.due("run of 15 panes", Expect.run(x, "pane 1 1;".repeat(15)), 15);
        Expect.due("run of two more panes", Expect.run(x, "pane 1 1;pane 1 1;"), 1);
    }

    /** Three panes, of which 0 and 1 are docked one beside the other, and pane 2 floats. */
    private static DockTree sample() {
        DockTree x = Expect.with(1, 1, 1, 1, 1, 1, 1, 1);
        x.dockAtEdge(0, DockTree.LEFT);
        x.dock(1, 0, DockTree.RIGHT);
        x.floatAt(2, 0, 0, 5, 5);
        x.save(1);
        return x;
    }

    private static void taken(String command) {
        Expect.due("run of " + command, Expect.run(sample(), command), 1);
    }

    /** A command that would throw: it and the ones behind it do nothing, the one before it stays done. */
    private static void refused(String command) {
        DockTree x = sample();
        Expect.due("run up to " + command, Expect.run(x, "pane 7 8;" + command + "pane 9 9;"), 1);
        Expect.due("panes behind " + command, x.whole(2), 5);
        DockTree y = sample();
        y.addPane(7, 8);
        Expect.due("digest() behind " + command, x.digest(), y.digest());
    }

    private static void eachCommandAtItsEdges() {
        for (String command : new String[] {"pane 1 60;", "pane 60 1;", "edge 0 0;", "edge 3 3;", "dock 0 1 0;",
            "dock 3 0 4;", "dock 0 2 4;", "float 0 0 0 1 1;", "float 3 399 399 400 400;", "close 0;", "close 3;",
            "share 0 1;", "share 1 999;", "save 0;", "save 3;", "load 1;"}) {
            taken(command);
        }
        for (String command : new String[] {"pane 0 1;", "pane 1 0;", "pane 61 1;", "pane 1 61;", "edge 5 0;",
            "edge 0 4;", "dock 5 0 0;", "dock 0 5 0;", "dock 0 0 0;", "dock 0 1 5;", "dock 0 3 0;", "dock 0 3 4;",
            "dock 0 2 0;", "dock 0 2 3;", "float 5 0 0 1 1;", "float 0 400 0 1 1;", "float 0 0 400 1 1;",
            "float 0 0 0 0 1;", "float 0 0 0 401 1;", "float 0 0 0 1 0;", "float 0 0 0 1 401;", "close 5;",
            "share 5 1;", "share 0 0;", "share 2 1;", "share 3 1;", "save 4;", "load 0;", "load 4;"}) {
            refused(command);
        }
        DockTree x = sample();
        Expect.due("share of the root", Expect.run(x, "close 1;share 0 1;close 2;"), 1);
        Expect.floating(x, 2);
    }

    // "those before it stay done, and they alone count"
    private static void stopsAtTheFirstThatWouldThrow() {
        DockTree x = new DockTree();
        Expect.due("run", Expect.run(x, "pane 1 1;pane 1 1;edge 0 0;dock 1 0 4;close 2;close 0;close 1;"), 4);
        Expect.tabs(x, 0, 1, 0, 1);
        Expect.due("run of the first one alone", Expect.run(x, "close 2;close 0;"), 0);
        Expect.tabs(x, 0, 1, 0, 1);
        Expect.due("commands go by those before them", Expect.run(x, "load 0;"), 0);
        Expect.due("save and load in one run", Expect.run(x, "save 0;close 0;close 1;load 0;"), 4);
        Expect.tabs(x, 0, 1, 0, 1);
    }

    // "A run saves one state, the one from before it; its commands save none."
    private static void oneStateForEachRun() {
        DockTree x = new DockTree();
        Expect.type(x, "pane 1 1;save 0;close 0;pane 2 2;edge 1 0;");
        for (int run = 1; run <= 5; run++) {
            Expect.due("runCommands() number " + run, x.runCommands(), 5);
        }
        for (int left = 3; left >= 0; left--) {
            Expect.due("undo() of a run", x.undo(), left);
            Expect.due("panes behind the undo", x.whole(2), 2 + 2 * left);
        }
        Expect.badState("undo() of the run that was dropped", x, () -> x.undo());
    }
}
