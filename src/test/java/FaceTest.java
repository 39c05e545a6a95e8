import java.lang.reflect.Constructor;
import java.lang.reflect.Field;
import java.lang.reflect.InvocationTargetException;
import java.lang.reflect.Method;
import java.lang.reflect.Modifier;
import java.util.Arrays;
import java.util.HashSet;
import java.util.List;
import java.util.Map;
import java.util.Set;
import java.util.TreeMap;

/** The face of the class, as the document lists it, and every method of it with the most unlikely arguments. */
public final class FaceTest {
    private static final String B = "IndexOutOfBoundsException";
    private static final String A = "IllegalArgumentException";
    private static final String S = "IllegalStateException";
    private static final int[] ODD = {Integer.MIN_VALUE, -401, -2, -1, 0, 1, 3, 4, 5, 15, 16, 20, 399, 400, 401,
        1000001, Integer.MAX_VALUE - 1, Integer.MAX_VALUE};

    /** Of each method the number of its arguments and the exceptions that it declares, in their order. */
    private static final Map<String, List<Object>> METHODS = new TreeMap<>();

    private FaceTest() {
    }

    public static void main(String[] args) {
        listMethods();
        constants();
        noOtherMember();
        signatures();
        privateNames();
        oddArguments(new DockTree(), "a new object");
        oddArguments(busy(), "a busy object");
        Expect.end();
    }

    private static void method(String name, int arguments, String... exceptions) {
        METHODS.put(name, List.of(arguments, List.of(exceptions)));
    }

    private static void listMethods() {
        method("setWindow", 2, A);
        method("addPane", 2, A, S);
        method("setLeast", 3, B, A);
        method("dock", 3, B, A, S);
        method("dockAtEdge", 2, B, A);
        method("floatAt", 5, B, A);
        method("raise", 1, B, S);
        method("close", 1, B);
        method("activate", 1, B, S);
        method("moveTab", 2, B, S, A);
        method("setShare", 2, B, A, S);
        method("drag", 2, B, A, S);
        method("save", 1, A);
        method("bringBack", 1, A, S);
        method("pane", 2, B, A);
        method("split", 3, B, A);
        method("paneAt", 2, B);
        method("tab", 2, B, A);
        method("group", 1, A);
        method("floating", 1, A);
        method("whole", 1, A);
        method("tightIn", 2, A);
        method("cellsIf", 3, B, A, S);
        method("bestSide", 2, B, A, S);
        method("type", 1, A, S);
        method("clearCommands", 0);
        method("runCommands", 0);
        method("undo", 0, S);
        method("digest", 0);
    }

    private static void check(String what, boolean holds) {
        Expect.due(what, holds ? 1 : 0, 1);
    }

    private static void constants() {
        Expect.due("NONE", DockTree.NONE, -1);
        Expect.due("LEFT", DockTree.LEFT, 0);
        Expect.due("RIGHT", DockTree.RIGHT, 1);
        Expect.due("ABOVE", DockTree.ABOVE, 2);
        Expect.due("BELOW", DockTree.BELOW, 3);
        Expect.due("TAB", DockTree.TAB, 4);
        Expect.due("CLOSED", DockTree.CLOSED, 0);
        Expect.due("DOCKED", DockTree.DOCKED, 1);
        Expect.due("FLOATING", DockTree.FLOATING, 2);
    }

    private static void noOtherMember() {
        check("the class is public and final", DockTree.class.getModifiers() == (Modifier.PUBLIC | Modifier.FINAL));
        Constructor<?>[] constructors = DockTree.class.getDeclaredConstructors();
        Expect.due("constructors", constructors.length, 1);
        check("the constructor is public", Modifier.isPublic(constructors[0].getModifiers()));
        Set<String> constants = Set.of("NONE", "LEFT", "RIGHT", "ABOVE", "BELOW", "TAB", "CLOSED", "DOCKED", "FLOATING");
        for (Field field : DockTree.class.getDeclaredFields()) {
            boolean listed = constants.contains(field.getName());
            check("field " + field.getName(), field.isSynthetic()
                    || (listed ? Modifier.isPublic(field.getModifiers()) : Modifier.isPrivate(field.getModifiers())));
            check("static field " + field.getName() + " is final",
                    !Modifier.isStatic(field.getModifiers()) || Modifier.isFinal(field.getModifiers()));
        }
        Set<String> found = new HashSet<>();
        for (Method method : DockTree.class.getDeclaredMethods()) {
            boolean isPublic = Modifier.isPublic(method.getModifiers());
            check("method " + method.getName() + " is of the document or private", method.isSynthetic()
                    || (isPublic ? METHODS.containsKey(method.getName()) : Modifier.isPrivate(method.getModifiers())));
            if (isPublic) {
                check("method " + method.getName() + " stands once", found.add(method.getName()));
            }
        }
        check("all methods are there", found.equals(METHODS.keySet()));
    }

    private static void signatures() {
        METHODS.forEach((name, due) -> {
            Method method = find(name);
            List<String> exceptions = Arrays.stream(method.getExceptionTypes()).map(Class::getSimpleName).toList();
            check("exceptions of " + name, exceptions.equals(due.get(1)));
            check("result of " + name, method.getReturnType() == (name.equals("digest") ? long.class : int.class));
        });
    }

    private static Method find(String name) {
        Class<?>[] types = new Class<?>[(Integer) METHODS.get(name).get(0)];
        Arrays.fill(types, int.class);
        try {
            return DockTree.class.getDeclaredMethod(name, types);
        } catch (NoSuchMethodException e) {
            throw new IllegalStateException(name, e);
        }
    }

    private static void privateNames() {
        for (Method method : DockTree.class.getDeclaredMethods()) {
            check("no private method is named " + method.getName(),
                    Modifier.isPublic(method.getModifiers()) || !METHODS.containsKey(method.getName()));
        }
    }

    private static DockTree busy() {
        DockTree x = new DockTree();
        for (int k = 0; k < 15; k++) {
            x.addPane(1 + k, 60 - k);
        }
        x.dockAtEdge(0, DockTree.LEFT);
        for (int k = 1; k < 10; k++) {
            x.dock(k, k / 2, k % 5);
        }
        x.floatAt(10, 399, 399, 400, 400);
        x.floatAt(11, 0, 0, 1, 1);
        x.dock(12, 11, DockTree.TAB);
        x.save(2);
        return x;
    }

    /** What the calls answer is free here; but no exception may come that the method does not declare. */
    private static void oddArguments(DockTree x, String state) {
        for (String name : METHODS.keySet()) {
            int count = (Integer) METHODS.get(name).get(0);
            int most = (int) Math.pow(ODD.length, Math.min(count, 3));
            for (int k = 0; k < most; k++) {
                Object[] arguments = new Object[count];
                for (int place = 0, rest = k; place < count; place++, rest /= ODD.length) {
                    // A fourth and a fifth argument take turns by themselves: all combinations would be too many.
                    arguments[place] = ODD[place < 3 ? rest % ODD.length : (k + place) % ODD.length];
                }
                odd(x, name, arguments, state);
            }
        }
    }

    private static void odd(DockTree x, String name, Object[] arguments, String state) {
        try {
            find(name).invoke(x, arguments);
        } catch (InvocationTargetException e) {
            String thrown = e.getCause().getClass().getSimpleName();
            boolean declared = ((List<?>) METHODS.get(name).get(1)).contains(thrown);
            check(state + ": " + name + Arrays.toString(arguments) + " throws " + thrown, declared);
        } catch (IllegalAccessException e) {
            throw new IllegalStateException(name, e);
        }
    }
}
