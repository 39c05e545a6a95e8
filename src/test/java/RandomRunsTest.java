import java.lang.reflect.InvocationTargetException;
import java.lang.reflect.Method;
import java.util.Arrays;
import java.util.HashMap;
import java.util.List;
import java.util.Map;

/** Long runs of calls, from fixed seeds, with the answers of DockTreeModel as those that are due. */
public final class RandomRunsTest {
    private static final String[] WORDS = {"pane", "edge", "dock", "float", "close", "share", "save", "load"};
    private static final int[] NUMBERS = {2, 2, 3, 5, 1, 2, 1, 1};

    private static final List<Class<?>> EXCEPTIONS = List.of(IndexOutOfBoundsException.class,
            IllegalArgumentException.class, IllegalStateException.class);
    private static final Map<String, Method> METHODS = new HashMap<>();

    private static long seed;

    private RandomRunsTest() {
    }

    public static void main(String[] args) {
        for (int run = 0; run < 300; run++) {
            seed = 7919L * run + 1;
            run(run, 40 + run % 160);
        }
        Expect.end();
    }

    private static int below(int end) {
        seed = seed * 6364136223846793005L + 1442695040888963407L;
        return (int) ((seed >>> 33) % end);
    }

    private static void run(int run, int calls) {
        DockTree x = new DockTree();
        DockTreeModel model = new DockTreeModel();
        int most = 2 + below(15);
        for (int k = 0; k < most; k++) {
            both(run, x, model, "addPane", leastSize(run), leastSize(run));
        }
        for (int k = 0; k < calls; k++) {
            if (below(12) == 0) {
                commands(run, x, model);
            } else {
                call(run, x, model);
            }
            both(run, x, model, "digest");
        }
        compareAll(run, x, model);
    }

    private static int leastSize(int run) {
        return 1 + below(run % 3 == 0 ? 60 : run % 3 == 1 ? 12 : 3);
    }

    private static int index() {
        return below(25) == 0 ? below(20) - 2 : below(16);
    }

    private static int near(int least, int most) {
        return below(15) == 0 ? (below(2) == 0 ? least - 1 : most + 1) : least + below(most - least + 1);
    }

    private static void call(int run, DockTree x, DockTreeModel model) {
        switch (below(22)) {
            case 0 -> both(run, x, model, "setWindow", near(20, below(2) == 0 ? 60 : 400), near(20, below(2) == 0 ? 60 : 400));
            case 1 -> both(run, x, model, "addPane", near(1, 60), near(1, 60));
            case 2 -> both(run, x, model, "setLeast", index(), near(1, 60), near(1, 60));
            case 3, 4, 5, 6 -> both(run, x, model, "dock", index(), index(), near(0, 4));
            case 7, 8 -> both(run, x, model, "dockAtEdge", index(), near(0, 3));
            case 9 -> both(run, x, model, "floatAt", index(), near(0, 120), near(0, 60), near(1, 400), near(1, 400));
            case 10 -> both(run, x, model, "raise", index());
            case 11 -> both(run, x, model, "close", index());
            case 12 -> both(run, x, model, "activate", index());
            case 13 -> both(run, x, model, "moveTab", index(), near(0, 3));
            case 14 -> both(run, x, model, "setShare", index(), near(1, below(3) == 0 ? 1000000 : 9));
            case 15, 16 -> both(run, x, model, "drag", index(), below(8) == 0 ? near(-400, 400) : below(21) - 10);
            case 17 -> both(run, x, model, "save", near(0, 3));
            case 18 -> both(run, x, model, "bringBack", near(0, 3));
            case 19 -> both(run, x, model, "undo");
            case 20 -> both(run, x, model, "tightIn", near(20, 400), near(20, 400));
            default -> {
                both(run, x, model, "cellsIf", index(), index(), near(0, 4));
                both(run, x, model, "bestSide", index(), index());
                both(run, x, model, "paneAt", near(0, 130), near(0, 80));
            }
        }
    }

    private static void commands(int run, DockTree x, DockTreeModel model) {
        if (below(3) > 0) {
            both(run, x, model, "clearCommands");
        }
        StringBuilder text = new StringBuilder();
        for (int k = below(9); k > 0; k--) {
            int word = below(8);
            text.append(" ".repeat(below(3))).append(WORDS[word]);
            for (int number = 0; number < NUMBERS[word]; number++) {
                text.append(" ".repeat(1 + below(2))).append("0".repeat(below(2))).append(below(number == 0 ? 14 : 6));
            }
            text.append(" ".repeat(below(2))).append(';');
        }
        if (below(3) == 0 && text.length() > 0) {
            text.setCharAt(below(text.length()), " 0a;ZA{`/:e9\n".charAt(below(13)));
        }
        if (below(8) == 0) {
            text.setLength(below(text.length() + 1));
        }
        for (int k = 0; k < text.length(); k++) {
            both(run, x, model, "type", (int) text.charAt(k));
        }
        both(run, x, model, "runCommands");
    }

    /** Every value that can be asked for, at and beyond the edges too. */
    private static void compareAll(int run, DockTree x, DockTreeModel model) {
        for (int what = -1; what <= 12; what++) {
            both(run, x, model, "whole", what);
        }
        for (int pane = -1; pane <= 16; pane++) {
            for (int what = -1; what <= 12; what++) {
                both(run, x, model, "pane", pane, what);
            }
            for (int level = -1; level <= 5; level++) {
                for (int what = -1; what <= 8; what++) {
                    both(run, x, model, "split", pane, level, what);
                }
            }
            for (int place = -1; place <= 16; place++) {
                both(run, x, model, "tab", pane, place);
            }
        }
        for (int index = -1; index <= 16; index++) {
            both(run, x, model, "group", index);
            both(run, x, model, "floating", index);
        }
        for (int row = -1; row <= 60; row += 3) {
            for (int column = -1; column <= 100; column += 3) {
                both(run, x, model, "paneAt", column, row);
            }
        }
    }

    private static void both(int run, DockTree x, DockTreeModel model, String name, Integer... args) {
        String what = "run " + run + ": " + name + Arrays.toString(args);
        Expect.due(what, answer(x, name, args), answer(model, name, args));
    }

    /** What the call answers; an exception is an answer too: a number that no call has. */
    private static long answer(Object x, String name, Integer[] args) {
        try {
            return ((Number) method(x, name, args.length).invoke(x, (Object[]) args)).longValue();
        } catch (InvocationTargetException e) {
            return Long.MIN_VALUE + EXCEPTIONS.indexOf(e.getCause().getClass());
        } catch (ReflectiveOperationException e) {
            throw new IllegalStateException(name, e);
        }
    }

    private static Method method(Object x, String name, int args) throws NoSuchMethodException {
        Method method = METHODS.get(x.getClass() + name);
        if (method == null) {
            Class<?>[] types = new Class<?>[args];
            Arrays.fill(types, int.class);
            method = x.getClass().getDeclaredMethod(name, types);
            METHODS.put(x.getClass() + name, method);
        }
        return method;
    }
}
