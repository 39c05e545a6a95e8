import java.util.Arrays;

/**
 * The panes of a window: tabs of groups that are docked in a tree of splits, or float above it.
 * Each method keeps the promise of DOC.md that bears its name.
 */
public final class DockTree {
    /** Returned where there is no such value. */
    public static final int NONE = -1;
    /** Sides, and docking as a tab. */
    public static final int LEFT = 0, RIGHT = 1, ABOVE = 2, BELOW = 3, TAB = 4;
    /** States of panes. */
    public static final int CLOSED = 0, DOCKED = 1, FLOATING = 2;

    private static final int MOST_PANES = 16;
    private static final int MOST_LEAST = 60;
    private static final int LEAST_WINDOW = 20;
    private static final int MOST_WINDOW = 400;
    private static final int MOST_WEIGHT = 1000000;
    private static final int MOST_BYTES = 150;
    private static final int MOST_SAVED = 4;
    private static final int LAYOUTS = 4;

    // An axis: of a split, the direction in which its children lie; of a box, which of its sizes is meant.
    private static final int WIDTH = 0;
    private static final int HEIGHT = 1;
    private static final int AXES = 2;

    // Panes, groups, splits and the two holders of all others have one common numbering, because all of them
    // lie at a place in a holder: tabs in groups, groups and splits in splits, the root in the window, and
    // floating groups in the stack. Panes come first, so that a pane's number is the one that callers use.
    private static final int FIRST_GROUP = MOST_PANES;
    private static final int FIRST_SPLIT = FIRST_GROUP + MOST_PANES;
    private static final int WINDOW = FIRST_SPLIT + MOST_PANES - 1;
    private static final int STACK = WINDOW + 1;
    private static final int THINGS = STACK + 1;
    private static final int MOST_NODES = WINDOW - FIRST_GROUP;

    // What forbids a call, as a number, so that commands of a text can ask without an exception.
    private static final int FINE = 0;
    private static final int NOT_THERE = 1;
    private static final int BAD_ARGUMENT = 2;
    private static final int BAD_STATE = 3;

    private final State now = new State();
    private final History history = new History();
    private final CommandText text = new CommandText();
    private final Plan plan = new Plan();
    private final Layout trial = new Layout();
    private final Plan trialPlan = new Plan();

    public DockTree() {
        // The fields stand for a window without panes as they are made, the plan of it too.
    }

    // ---- window and panes

    public int setWindow(int width, int height) throws IllegalArgumentException {
        throwIf(faultOfWindow(width, height));
        history.push(now);
        int before = 1000 * now.width + now.height;
        now.width = width;
        now.height = height;
        settle();
        return before;
    }

    public int addPane(int width, int height) throws IllegalArgumentException, IllegalStateException {
        throwIf(faultOfNewPane(width, height));
        history.push(now);
        now.appendPane(width, height);
        settle();
        return now.panes - 1;
    }

    public int setLeast(int pane, int width, int height) throws IndexOutOfBoundsException, IllegalArgumentException {
        throwIf(isPane(pane) ? faultOfLeast(width, height) : NOT_THERE);
        history.push(now);
        int before = 1000 * now.leastOf(pane, WIDTH) + now.leastOf(pane, HEIGHT);
        now.changeLeast(pane, width, height);
        settle();
        return before;
    }

    public int dock(int pane, int target, int side)
            throws IndexOutOfBoundsException, IllegalArgumentException, IllegalStateException {
        throwIf(faultOfDocking(pane, target, side));
        history.push(now);
        now.layout.dockAt(pane, target, side);
        settle();
        return now.layout.countOf(now.layout.holderOf(pane));
    }

    public int dockAtEdge(int pane, int side) throws IndexOutOfBoundsException, IllegalArgumentException {
        throwIf(faultOfEdge(pane, side));
        history.push(now);
        now.layout.dockAtWindow(pane, side);
        settle();
        return plan.groups();
    }

    public int floatAt(int pane, int x, int y, int width, int height)
            throws IndexOutOfBoundsException, IllegalArgumentException {
        throwIf(faultOfFloating(pane, x, y, width, height));
        history.push(now);
        now.layout.floatAlone(pane, x, y, width, height);
        settle();
        return now.layout.countOf(STACK);
    }

    public int raise(int pane) throws IndexOutOfBoundsException, IllegalStateException {
        throwIf(faultOfRaising(pane));
        history.push(now);
        int before = now.layout.raiseGroup(now.layout.holderOf(pane));
        settle();
        return before;
    }

    public int close(int pane) throws IndexOutOfBoundsException {
        throwIf(faultOfPane(pane));
        history.push(now);
        int before = now.layout.stateOf(pane);
        now.layout.takeAway(pane);
        settle();
        return before;
    }

    public int activate(int pane) throws IndexOutOfBoundsException, IllegalStateException {
        throwIf(faultOfOpenPane(pane));
        history.push(now);
        int group = now.layout.holderOf(pane);
        int before = now.layout.activeOf(group);
        now.layout.changeActive(group, pane);
        return before;
    }

    public int moveTab(int pane, int place)
            throws IndexOutOfBoundsException, IllegalStateException, IllegalArgumentException {
        throwIf(faultOfMoving(pane, place));
        history.push(now);
        int before = now.layout.placeOf(pane);
        now.layout.moveWithinGroup(pane, place);
        settle();
        return before;
    }

    public int setShare(int pane, int weight)
            throws IndexOutOfBoundsException, IllegalArgumentException, IllegalStateException {
        throwIf(faultOfShare(pane, weight));
        history.push(now);
        int group = now.layout.holderOf(pane);
        int before = now.layout.weightOf(group);
        now.layout.changeWeight(group, weight);
        settle();
        return before;
    }

    public int drag(int pane, int cells)
            throws IndexOutOfBoundsException, IllegalArgumentException, IllegalStateException {
        throwIf(faultOfDragging(pane, cells));
        history.push(now);
        int group = now.layout.holderOf(pane);
        int axis = now.layout.axisOf(now.layout.holderOf(group));
        moveDivider(group, axis, cells);
        settle();
        return plan.sizeOf(group, axis);
    }

    // ---- layouts

    public int save(int place) throws IllegalArgumentException {
        throwIf(faultOfSaving(place));
        history.push(now);
        int before = now.hasKept(place) ? 1 : 0;
        now.keep(place);
        return before;
    }

    public int bringBack(int place) throws IllegalArgumentException, IllegalStateException {
        throwIf(faultOfLoading(place));
        history.push(now);
        now.takeKept(place);
        settle();
        return panesIn(DOCKED) + panesIn(FLOATING);
    }

    // ---- values

    public int pane(int pane, int what) throws IndexOutOfBoundsException, IllegalArgumentException {
        throwIf(isPane(pane) ? faultOfRange(what, 0, 11) : NOT_THERE);
        if (what == 0 || what == 1) {
            return now.leastOf(pane, what == 0 ? WIDTH : HEIGHT);
        }
        int state = now.layout.stateOf(pane);
        if (what == 2) {
            return state;
        }
        return state == CLOSED ? NONE : valueInGroup(pane, now.layout.holderOf(pane), what);
    }

    public int split(int pane, int level, int what) throws IndexOutOfBoundsException, IllegalArgumentException {
        throwIf(isPane(pane) ? faultOfSplitValue(level, what) : NOT_THERE);
        int below = now.layout.holderOf(pane);
        int split = now.layout.holderOf(below);
        for (int k = 0; k < level && isSplit(split); k++) {
            below = split;
            split = now.layout.holderOf(below);
        }
        return isSplit(split) ? valueOfSplit(split, below, what) : NONE;
    }

    public int paneAt(int x, int y) throws IndexOutOfBoundsException {
        throwIf(x >= 0 && x < now.width && y >= 0 && y < now.height ? FINE : NOT_THERE);
        for (int k = now.layout.countOf(STACK) - 1; k >= 0; k--) {
            int group = plan.memberOf(STACK, k);
            if (plan.covers(group, x, y)) {
                return now.layout.activeOf(group);
            }
        }
        return now.layout.activeOf(plan.treeGroupAt(x, y));
    }

    public int tab(int pane, int place) throws IndexOutOfBoundsException, IllegalArgumentException {
        throwIf(isPane(pane) ? faultOfIndex(place) : NOT_THERE);
        int group = now.layout.holderOf(pane);
        return group == NONE ? NONE : now.layout.memberAt(group, place);
    }

    public int group(int index) throws IllegalArgumentException {
        throwIf(faultOfIndex(index));
        return now.layout.activeOf(plan.treeGroup(index));
    }

    public int floating(int index) throws IllegalArgumentException {
        throwIf(faultOfIndex(index));
        return now.layout.activeOf(now.layout.memberAt(STACK, index));
    }

    public int whole(int what) throws IllegalArgumentException {
        throwIf(faultOfRange(what, 0, 11));
        switch (what) {
            case 0:
                return now.width;
            case 1:
                return now.height;
            case 2:
                return now.panes;
            case 3:
                return panesIn(DOCKED);
            case 4:
                return panesIn(FLOATING);
            case 5:
                return plan.groups();
            case 6:
                return plan.splits();
            case 7:
                return now.layout.countOf(STACK);
            case 8:
                return plan.leastOfRoot(WIDTH);
            case 9:
                return plan.leastOfRoot(HEIGHT);
            case 10:
                return plan.tightSplits();
            default:
                return plan.dividerCells();
        }
    }

    // ---- what if, which changes nothing

    public int tightIn(int width, int height) throws IllegalArgumentException {
        throwIf(faultOfWindow(width, height));
        trialPlan.work(now.layout, now.least, width, height);
        return trialPlan.tightSplits();
    }

    public int cellsIf(int pane, int target, int side)
            throws IndexOutOfBoundsException, IllegalArgumentException, IllegalStateException {
        throwIf(faultOfDocking(pane, target, side));
        return cellsBehindDocking(pane, target, side);
    }

    public int bestSide(int pane, int target)
            throws IndexOutOfBoundsException, IllegalArgumentException, IllegalStateException {
        throwIf(faultOfDocking(pane, target, LEFT));
        int best = LEFT;
        int most = NONE;
        for (int side = LEFT; side <= BELOW; side++) {
            int cells = cellsBehindDocking(pane, target, side);
            if (cells > most) {
                best = side;
                most = cells;
            }
        }
        return best;
    }

    // ---- command text, undo and checksum

    public int type(int value) throws IllegalArgumentException, IllegalStateException {
        throwIf(faultOfTyping(value));
        text.append(value);
        return text.length();
    }

    public int clearCommands() {
        int before = text.length();
        text.empty();
        return before;
    }

    public int runCommands() {
        int fault = text.faultOfAll();
        if (fault != NONE) {
            return -10 - fault;
        }
        history.push(now);
        int done = 0;
        text.startReading();
        while (done < MOST_BYTES && text.readNext() && faultOfCommand(text.command()) == FINE) {
            carryOut(text.command());
            done++;
        }
        settle();
        return done;
    }

    public int undo() throws IllegalStateException {
        throwIf(history.depth() > 0 ? FINE : BAD_STATE);
        history.popInto(now);
        settle();
        return history.depth();
    }

    public long digest() {
        long h = 43151;
        h = 31 * h + history.depth();
        h = 31 * h + text.length();
        for (int what = 0; what <= 11; what++) {
            h = 31 * h + whole(what);
        }
        h = mixPanes(h);
        h = mixSplits(h);
        for (int k = 0; k < plan.groups(); k++) {
            h = 31 * h + group(k);
        }
        for (int k = 0; k < now.layout.countOf(STACK); k++) {
            h = 31 * h + floating(k);
        }
        for (int place = 0; place < LAYOUTS; place++) {
            h = 31 * h + (now.hasKept(place) ? 1 : 0);
        }
        return h;
    }

    // ---- what the calls above share

    private void settle() {
        plan.work(now.layout, now.least, now.width, now.height);
    }

    private void moveDivider(int group, int axis, int cells) {
        int split = now.layout.holderOf(group);
        for (int k = 0; k < now.layout.countOf(split); k++) {
            int child = plan.memberOf(split, k);
            now.layout.changeWeight(child, plan.sizeOf(child, axis));
        }
        int next = plan.memberOf(split, now.layout.placeOf(group) + 1);
        now.layout.changeWeight(group, plan.sizeOf(group, axis) + cells);
        now.layout.changeWeight(next, plan.sizeOf(next, axis) - cells);
    }

    private int cellsBehindDocking(int pane, int target, int side) {
        trial.copyFrom(now.layout);
        trial.dockAt(pane, target, side);
        trialPlan.work(trial, now.least, now.width, now.height);
        int group = trial.holderOf(pane);
        return trialPlan.sizeOf(group, WIDTH) * trialPlan.rowsBelowTabs(group);
    }

    private int panesIn(int state) {
        int found = 0;
        for (int pane = 0; pane < now.panes; pane++) {
            if (now.layout.stateOf(pane) == state) {
                found++;
            }
        }
        return found;
    }

    private int valueInGroup(int pane, int group, int what) {
        switch (what) {
            case 3:
                return plan.startOf(group, WIDTH);
            case 4:
                return plan.startOf(group, HEIGHT) + 1;
            case 5:
                return plan.sizeOf(group, WIDTH);
            case 6:
                return plan.rowsBelowTabs(group);
            case 7:
                return now.layout.activeOf(group) == pane ? 1 : 0;
            case 8:
                return now.layout.placeOf(pane);
            case 9:
                return now.layout.countOf(group);
            case 10:
                return isSplit(now.layout.holderOf(group)) ? now.layout.weightOf(group) : NONE;
            default:
                return plan.depthOf(group);
        }
    }

    private int valueOfSplit(int split, int below, int what) {
        switch (what) {
            case 0:
                return now.layout.axisOf(split) == HEIGHT ? 1 : 0;
            case 1:
                return now.layout.countOf(split);
            case 2:
                return now.layout.placeOf(below);
            case 3:
                return plan.leastOf(split, WIDTH);
            case 4:
                return plan.leastOf(split, HEIGHT);
            case 5:
                return plan.sizeOf(split, WIDTH);
            case 6:
                return plan.sizeOf(split, HEIGHT);
            default:
                return plan.isTight(split) ? 1 : 0;
        }
    }

    private long mixPanes(long start) {
        long h = start;
        for (int pane = 0; pane < now.panes; pane++) {
            for (int what = 0; what <= 11; what++) {
                h = 31 * h + pane(pane, what);
            }
            h = 31 * h + tab(pane, 0);
            h = 31 * h + tab(pane, 1);
        }
        return h;
    }

    private long mixSplits(long start) {
        long h = start;
        for (int pane = 0; pane < now.panes; pane++) {
            // Floating groups have depth 0, and closed panes no group at all: both have no split to mix in.
            int above = now.layout.stateOf(pane) == CLOSED ? 0 : plan.depthOf(now.layout.holderOf(pane));
            for (int level = 0; level < above; level++) {
                for (int what = 0; what <= 7; what++) {
                    h = 31 * h + split(pane, level, what);
                }
            }
        }
        return h;
    }

    private int faultOfCommand(Command command) {
        if (command == null) {
            return BAD_ARGUMENT;
        }
        int first = text.number(0);
        int second = text.number(1);
        switch (command) {
            case PANE:
                return faultOfNewPane(first, second);
            case EDGE:
                return faultOfEdge(first, second);
            case DOCK:
                return faultOfDocking(first, second, text.number(2));
            case FLOAT:
                return faultOfFloating(first, second, text.number(2), text.number(3), text.number(4));
            case CLOSE:
                return faultOfPane(first);
            case SHARE:
                return faultOfShare(first, second);
            case SAVE:
                return faultOfSaving(first);
            default:
                return faultOfLoading(first);
        }
    }

    private void carryOut(Command command) {
        if (command == null) {
            return;
        }
        int first = text.number(0);
        int second = text.number(1);
        switch (command) {
            case PANE:
                now.appendPane(first, second);
                break;
            case EDGE:
                now.layout.dockAtWindow(first, second);
                break;
            case DOCK:
                now.layout.dockAt(first, second, text.number(2));
                break;
            case FLOAT:
                now.layout.floatAlone(first, second, text.number(2), text.number(3), text.number(4));
                break;
            case CLOSE:
                now.layout.takeAway(first);
                break;
            case SHARE:
                now.layout.changeWeight(now.layout.holderOf(first), second);
                break;
            case SAVE:
                now.keep(first);
                break;
            default:
                now.takeKept(first);
                break;
        }
    }

    // ---- what forbids a call, in the order in which the document lists the exceptions

    private static void throwIf(int fault) {
        if (fault == NOT_THERE) {
            throw new IndexOutOfBoundsException("there is no such pane or cell");
        }
        if (fault == BAD_ARGUMENT) {
            throw new IllegalArgumentException("an argument is out of range");
        }
        if (fault == BAD_STATE) {
            throw new IllegalStateException("what there is does not allow this");
        }
    }

    private static int faultOfRange(int value, int least, int most) {
        return value >= least && value <= most ? FINE : BAD_ARGUMENT;
    }

    private static int faultOfIndex(int index) {
        return index >= 0 ? FINE : BAD_ARGUMENT;
    }

    private static int faultOfWindow(int width, int height) {
        int fault = faultOfRange(width, LEAST_WINDOW, MOST_WINDOW);
        return fault != FINE ? fault : faultOfRange(height, LEAST_WINDOW, MOST_WINDOW);
    }

    private static int faultOfLeast(int width, int height) {
        int fault = faultOfRange(width, 1, MOST_LEAST);
        return fault != FINE ? fault : faultOfRange(height, 1, MOST_LEAST);
    }

    private static int faultOfSplitValue(int level, int what) {
        return level < 0 ? BAD_ARGUMENT : faultOfRange(what, 0, 7);
    }

    private static int faultOfSaving(int place) {
        return faultOfRange(place, 0, LAYOUTS - 1);
    }

    private int faultOfLoading(int place) {
        int fault = faultOfRange(place, 0, LAYOUTS - 1);
        return fault == FINE && !now.hasKept(place) ? BAD_STATE : fault;
    }

    private int faultOfNewPane(int width, int height) {
        int fault = faultOfLeast(width, height);
        return fault == FINE && now.panes >= MOST_PANES ? BAD_STATE : fault;
    }

    private boolean isPane(int pane) {
        return pane >= 0 && pane < now.panes;
    }

    private int faultOfPane(int pane) {
        return isPane(pane) ? FINE : NOT_THERE;
    }

    private int faultOfOpenPane(int pane) {
        int fault = faultOfPane(pane);
        return fault == FINE && now.layout.stateOf(pane) == CLOSED ? BAD_STATE : fault;
    }

    private int faultOfRaising(int pane) {
        int fault = faultOfPane(pane);
        return fault == FINE && now.layout.stateOf(pane) != FLOATING ? BAD_STATE : fault;
    }

    private int faultOfMoving(int pane, int place) {
        int fault = faultOfOpenPane(pane);
        return fault != FINE ? fault : faultOfRange(place, 0, now.layout.countOf(now.layout.holderOf(pane)) - 1);
    }

    private int faultOfDocking(int pane, int target, int side) {
        if (!isPane(pane) || !isPane(target)) {
            return NOT_THERE;
        }
        if (pane == target || side < LEFT || side > TAB) {
            return BAD_ARGUMENT;
        }
        int state = now.layout.stateOf(target);
        boolean possible = state == DOCKED || state == FLOATING && side == TAB;
        return possible ? FINE : BAD_STATE;
    }

    private int faultOfEdge(int pane, int side) {
        return isPane(pane) ? faultOfRange(side, LEFT, BELOW) : NOT_THERE;
    }

    private int faultOfFloating(int pane, int x, int y, int width, int height) {
        if (!isPane(pane)) {
            return NOT_THERE;
        }
        boolean starts = x >= 0 && x < MOST_WINDOW && y >= 0 && y < MOST_WINDOW;
        boolean sizes = width >= 1 && width <= MOST_WINDOW && height >= 1 && height <= MOST_WINDOW;
        return starts && sizes ? FINE : BAD_ARGUMENT;
    }

    private int faultOfShare(int pane, int weight) {
        if (!isPane(pane)) {
            return NOT_THERE;
        }
        if (weight < 1 || weight > MOST_WEIGHT) {
            return BAD_ARGUMENT;
        }
        return isSplit(now.layout.holderOf(now.layout.holderOf(pane))) ? FINE : BAD_STATE;
    }

    private int faultOfDragging(int pane, int cells) {
        if (!isPane(pane)) {
            return NOT_THERE;
        }
        if (cells < -MOST_WINDOW || cells > MOST_WINDOW) {
            return BAD_ARGUMENT;
        }
        int group = now.layout.holderOf(pane);
        int split = now.layout.holderOf(group);
        if (!isSplit(split) || plan.isTight(split)) {
            return BAD_STATE;
        }
        int next = now.layout.memberAt(split, now.layout.placeOf(group) + 1);
        int axis = now.layout.axisOf(split);
        boolean possible = next != NONE && plan.spareOf(group, axis) + cells >= 0
                && plan.spareOf(next, axis) - cells >= 0;
        return possible ? FINE : BAD_STATE;
    }

    private int faultOfTyping(int value) {
        int fault = faultOfRange(value, 0, 127);
        return fault == FINE && text.length() >= MOST_BYTES ? BAD_STATE : fault;
    }

    // ---- numbers of things, and rows of numbers

    private static boolean isSplit(int thing) {
        return thing >= FIRST_SPLIT && thing < WINDOW;
    }

    private static int at(int[] row, int index) {
        return row != null && index >= 0 && index < row.length ? row[index] : NONE;
    }

    private static void put(int[] row, int index, int value) {
        if (row != null && index >= 0 && index < row.length) {
            row[index] = value;
        }
    }

    private static void copyRow(int[] from, int[] to) {
        if (from != null && to != null) {
            System.arraycopy(from, 0, to, 0, Math.min(from.length, to.length));
        }
    }

    /** Who lies where: tabs in groups, groups in splits or floating, with weights, active panes and boxes. */
    private static final class Layout {
        private final int[] holder = new int[THINGS];
        private final int[] place = new int[THINGS];
        private final int[] count = new int[THINGS];
        private final int[] weight = new int[THINGS];
        private final int[] active = new int[MOST_PANES];
        private final int[] axis = new int[MOST_PANES];
        // The boxes of floating groups; those of docked ones follow from the rest.
        private final int[] start = new int[AXES * MOST_PANES];
        private final int[] size = new int[AXES * MOST_PANES];

        Layout() {
            Arrays.fill(holder, NONE);
        }

        void copyFrom(Layout other) {
            copyRow(other.holder, holder);
            copyRow(other.place, place);
            copyRow(other.count, count);
            copyRow(other.weight, weight);
            copyRow(other.active, active);
            copyRow(other.axis, axis);
            copyRow(other.start, start);
            copyRow(other.size, size);
        }

        int holderOf(int thing) {
            return at(holder, thing);
        }

        int placeOf(int thing) {
            return at(place, thing);
        }

        int countOf(int thing) {
            return at(count, thing);
        }

        int weightOf(int node) {
            return at(weight, node);
        }

        void changeWeight(int node, int value) {
            put(weight, node, value);
        }

        int activeOf(int group) {
            return at(active, group - FIRST_GROUP);
        }

        void changeActive(int group, int pane) {
            put(active, group - FIRST_GROUP, pane);
        }

        int axisOf(int split) {
            return at(axis, split - FIRST_SPLIT);
        }

        int floatingStartOf(int group, int along) {
            return at(start, AXES * (group - FIRST_GROUP) + along);
        }

        int floatingSizeOf(int group, int along) {
            return at(size, AXES * (group - FIRST_GROUP) + along);
        }

        int stateOf(int pane) {
            int group = at(holder, pane);
            if (group == NONE) {
                return CLOSED;
            }
            return at(holder, group) == STACK ? FLOATING : DOCKED;
        }

        int memberAt(int holding, int index) {
            for (int thing = 0; thing < THINGS; thing++) {
                if (at(holder, thing) == holding && at(place, thing) == index) {
                    return thing;
                }
            }
            return NONE;
        }

        void dockAt(int pane, int target, int side) {
            takeAway(pane);
            int group = at(holder, target);
            if (side == TAB) {
                insert(pane, group, at(count, group));
                changeActive(group, pane);
            } else {
                putBeside(groupOf(pane), group, side);
            }
        }

        void dockAtWindow(int pane, int side) {
            takeAway(pane);
            int group = groupOf(pane);
            int root = memberAt(WINDOW, 0);
            if (root == NONE) {
                insert(group, WINDOW, 0);
            } else if (isSplit(root) && axisOf(root) == axisAt(side)) {
                int outermost = isBehind(side) ? at(count, root) - 1 : 0;
                putBeside(group, memberAt(root, outermost), side);
            } else {
                wrap(root, group, side);
            }
        }

        void floatAlone(int pane, int x, int y, int width, int height) {
            takeAway(pane);
            int group = groupOf(pane);
            insert(group, STACK, at(count, STACK));
            int first = AXES * (group - FIRST_GROUP);
            put(start, first + WIDTH, x);
            put(start, first + HEIGHT, y);
            put(size, first + WIDTH, width);
            put(size, first + HEIGHT, height);
        }

        int raiseGroup(int group) {
            int before = at(place, group);
            remove(group);
            insert(group, STACK, at(count, STACK));
            return before;
        }

        void moveWithinGroup(int pane, int index) {
            int group = at(holder, pane);
            remove(pane);
            insert(pane, group, index);
        }

        void takeAway(int pane) {
            int group = at(holder, pane);
            if (group == NONE) {
                return;
            }
            int gap = at(place, pane);
            remove(pane);
            if (at(count, group) == 0) {
                takeOutGroup(group);
            } else if (activeOf(group) == pane) {
                changeActive(group, memberAt(group, Math.min(gap, at(count, group) - 1)));
            }
        }

        private void takeOutGroup(int group) {
            int split = at(holder, group);
            remove(group);
            if (isSplit(split) && at(count, split) == 1) {
                int child = memberAt(split, 0);
                remove(child);
                replace(split, child);
            }
        }

        private static int axisAt(int side) {
            return side == LEFT || side == RIGHT ? WIDTH : HEIGHT;
        }

        private static boolean isBehind(int side) {
            return side == RIGHT || side == BELOW;
        }

        private void putBeside(int group, int neighbour, int side) {
            int split = at(holder, neighbour);
            if (isSplit(split) && axisOf(split) == axisAt(side)) {
                insert(group, split, at(place, neighbour) + (isBehind(side) ? 1 : 0));
                put(weight, group, at(weight, neighbour));
            } else {
                wrap(neighbour, group, side);
            }
        }

        private void wrap(int old, int fresh, int side) {
            int split = unused(FIRST_SPLIT, WINDOW);
            put(axis, split - FIRST_SPLIT, axisAt(side));
            replace(old, split);
            insert(old, split, 0);
            insert(fresh, split, isBehind(side) ? 1 : 0);
            put(weight, old, 1);
            put(weight, fresh, 1);
        }

        private int groupOf(int pane) {
            int group = unused(FIRST_GROUP, FIRST_SPLIT);
            insert(pane, group, 0);
            changeActive(group, pane);
            return group;
        }

        private int unused(int from, int end) {
            for (int thing = from; thing < end; thing++) {
                if (at(count, thing) == 0) {
                    return thing;
                }
            }
            return NONE;
        }

        private void insert(int thing, int holding, int index) {
            for (int other = 0; other < THINGS; other++) {
                if (at(holder, other) == holding && at(place, other) >= index) {
                    put(place, other, at(place, other) + 1);
                }
            }
            put(holder, thing, holding);
            put(place, thing, index);
            put(count, holding, at(count, holding) + 1);
        }

        private void remove(int thing) {
            int holding = at(holder, thing);
            int gap = at(place, thing);
            put(holder, thing, NONE);
            put(count, holding, at(count, holding) - 1);
            for (int other = 0; other < THINGS; other++) {
                if (at(holder, other) == holding && at(place, other) > gap) {
                    put(place, other, at(place, other) - 1);
                }
            }
        }

        private void replace(int old, int fresh) {
            put(holder, fresh, at(holder, old));
            put(place, fresh, at(place, old));
            put(weight, fresh, at(weight, old));
            put(holder, old, NONE);
        }
    }

    /** The least sizes and the boxes that follow from a layout, from the panes' least sizes and the window. */
    private static final class Plan {
        private final int[] members = new int[(THINGS - FIRST_GROUP) * MOST_PANES];
        // The nodes of the tree, each split ahead of its children and all that is below them.
        private final int[] order = new int[MOST_NODES];
        private final int[] waiting = new int[MOST_NODES];
        private final int[] least = new int[AXES * THINGS];
        private final int[] start = new int[AXES * THINGS];
        private final int[] size = new int[AXES * THINGS];
        private final int[] depth = new int[THINGS];
        private final int[] tight = new int[THINGS];
        private final Sharing sharing = new Sharing();
        private int nodes;
        private int splits;
        private int tightSplits;
        private int dividerCells;

        void work(Layout layout, int[] paneLeast, int width, int height) {
            listMembers(layout);
            listNodes(layout);
            for (int k = nodes - 1; k >= 0; k--) {
                int node = at(order, k);
                measure(layout, paneLeast, node, WIDTH);
                measure(layout, paneLeast, node, HEIGHT);
            }
            placeFloating(layout);
            placeRoot(width, height);
            tightSplits = 0;
            dividerCells = 0;
            for (int k = 0; k < nodes; k++) {
                int node = at(order, k);
                if (isSplit(node)) {
                    shareAmongChildren(layout, node);
                    placeChildren(layout, node);
                }
            }
        }

        int memberOf(int holding, int index) {
            return index < 0 || index >= MOST_PANES ? NONE
                    : at(members, (holding - FIRST_GROUP) * MOST_PANES + index);
        }

        int groups() {
            return nodes - splits;
        }

        int splits() {
            return splits;
        }

        int tightSplits() {
            return tightSplits;
        }

        int dividerCells() {
            return dividerCells;
        }

        int leastOfRoot(int axis) {
            return nodes > 0 ? leastOf(at(order, 0), axis) : 0;
        }

        int leastOf(int node, int axis) {
            return at(least, AXES * node + axis);
        }

        int startOf(int node, int axis) {
            return at(start, AXES * node + axis);
        }

        int sizeOf(int node, int axis) {
            return at(size, AXES * node + axis);
        }

        int spareOf(int node, int axis) {
            return sizeOf(node, axis) - leastOf(node, axis);
        }

        int rowsBelowTabs(int group) {
            return Math.max(0, sizeOf(group, HEIGHT) - 1);
        }

        int depthOf(int node) {
            return at(depth, node);
        }

        boolean isTight(int split) {
            return at(tight, split) == 1;
        }

        boolean covers(int group, int x, int y) {
            int right = x - startOf(group, WIDTH);
            int down = y - startOf(group, HEIGHT);
            return right >= 0 && right < sizeOf(group, WIDTH) && down >= 0 && down < sizeOf(group, HEIGHT);
        }

        int treeGroupAt(int x, int y) {
            for (int k = 0; k < nodes; k++) {
                int node = at(order, k);
                if (!isSplit(node) && covers(node, x, y)) {
                    return node;
                }
            }
            return NONE;
        }

        int treeGroup(int index) {
            int ahead = 0;
            for (int k = 0; k < nodes; k++) {
                int node = at(order, k);
                if (!isSplit(node)) {
                    if (ahead == index) {
                        return node;
                    }
                    ahead++;
                }
            }
            return NONE;
        }

        private void listMembers(Layout layout) {
            Arrays.fill(members, NONE);
            for (int thing = 0; thing < THINGS; thing++) {
                int holding = layout.holderOf(thing);
                if (holding != NONE) {
                    put(members, (holding - FIRST_GROUP) * MOST_PANES + layout.placeOf(thing), thing);
                }
            }
        }

        private void listNodes(Layout layout) {
            nodes = 0;
            splits = 0;
            put(waiting, 0, memberOf(WINDOW, 0));
            int open = layout.countOf(WINDOW);
            while (open > 0 && nodes < MOST_NODES) {
                open--;
                int node = at(waiting, open);
                put(order, nodes, node);
                nodes++;
                if (isSplit(node)) {
                    splits++;
                    // The last child waits longest, so that the order is the one of the document.
                    for (int k = layout.countOf(node) - 1; k >= 0; k--) {
                        put(waiting, open, memberOf(node, k));
                        open++;
                    }
                }
            }
        }

        private void measure(Layout layout, int[] paneLeast, int node, int axis) {
            int[] below = isSplit(node) ? least : paneLeast;
            int count = layout.countOf(node);
            int sum = 0;
            int greatest = 0;
            for (int k = 0; k < count; k++) {
                int one = at(below, AXES * memberOf(node, k) + axis);
                sum += one;
                greatest = Math.max(greatest, one);
            }
            int result = greatest;
            if (isSplit(node) && layout.axisOf(node) == axis) {
                result = sum + count - 1;
            } else if (!isSplit(node) && axis == HEIGHT) {
                result = greatest + 1;
            }
            put(least, AXES * node + axis, result);
        }

        private void placeFloating(Layout layout) {
            for (int k = 0; k < layout.countOf(STACK); k++) {
                int group = memberOf(STACK, k);
                for (int axis = 0; axis < AXES; axis++) {
                    setSpan(group, axis, layout.floatingStartOf(group, axis), layout.floatingSizeOf(group, axis));
                }
                put(depth, group, 0);
            }
        }

        private void placeRoot(int width, int height) {
            int root = memberOf(WINDOW, 0);
            if (root == NONE) {
                return;
            }
            setSpan(root, WIDTH, 0, width);
            setSpan(root, HEIGHT, 0, height);
            put(depth, root, 0);
        }

        private void shareAmongChildren(Layout layout, int split) {
            int axis = layout.axisOf(split);
            int count = layout.countOf(split);
            int cells = Math.max(0, sizeOf(split, axis) - (count - 1));
            sharing.clear();
            for (int k = 0; k < count; k++) {
                int child = memberOf(split, k);
                sharing.add(leastOf(child, axis), layout.weightOf(child));
            }
            boolean isTight = sharing.needed() >= cells;
            if (isTight) {
                sharing.giveByLeast(cells);
                tightSplits++;
            } else {
                sharing.giveByWeight(cells);
            }
            put(tight, split, isTight ? 1 : 0);
        }

        private void placeChildren(Layout layout, int split) {
            int along = layout.axisOf(split);
            int across = along == WIDTH ? HEIGHT : WIDTH;
            int count = layout.countOf(split);
            dividerCells += (count - 1) * sizeOf(split, across);
            int next = startOf(split, along);
            for (int k = 0; k < count; k++) {
                int child = memberOf(split, k);
                setSpan(child, along, next, sharing.givenTo(k));
                setSpan(child, across, startOf(split, across), sizeOf(split, across));
                put(depth, child, at(depth, split) + 1);
                next += sharing.givenTo(k) + 1;
            }
        }

        private void setSpan(int node, int axis, int from, int cells) {
            put(start, AXES * node + axis, from);
            put(size, AXES * node + axis, cells);
        }
    }

    /** Shares the cells of a split among its children, which are added one after the other. */
    private static final class Sharing {
        private final int[] least = new int[MOST_PANES];
        private final int[] weight = new int[MOST_PANES];
        private final int[] given = new int[MOST_PANES];
        private final int[] free = new int[MOST_PANES];
        private int count;
        private int needed;

        void clear() {
            count = 0;
            needed = 0;
        }

        void add(int childLeast, int childWeight) {
            put(least, count, childLeast);
            put(weight, count, childWeight);
            put(free, count, 1);
            needed += childLeast;
            count++;
        }

        int needed() {
            return needed;
        }

        int givenTo(int child) {
            return at(given, child);
        }

        void giveByLeast(int cells) {
            int left = cells;
            for (int k = 0; k < count; k++) {
                int part = needed > 0 ? cells * at(least, k) / needed : 0;
                put(given, k, part);
                left -= part;
            }
            handOut(left);
        }

        void giveByWeight(int cells) {
            int left = cells;
            int taken = 1;
            // Each round but the last one makes a child unfree, so there is one more than children at the most.
            for (int round = 0; round <= count && taken > 0; round++) {
                taken = giveRound(left);
                left -= taken;
            }
            for (int k = 0; k < count; k++) {
                left -= at(free, k) == 1 ? at(given, k) : 0;
            }
            handOut(left);
        }

        /** Gives the free children their parts of the cells; who gets too few is unfree, and takes its least size. */
        private int giveRound(int cells) {
            int weights = 0;
            for (int k = 0; k < count; k++) {
                weights += at(free, k) == 1 ? at(weight, k) : 0;
            }
            int taken = 0;
            for (int k = 0; k < count; k++) {
                if (at(free, k) == 1) {
                    int part = weights > 0 ? cells * at(weight, k) / weights : 0;
                    boolean enough = part >= at(least, k);
                    put(given, k, enough ? part : at(least, k));
                    put(free, k, enough ? 1 : 0);
                    taken += enough ? 0 : at(least, k);
                }
            }
            return taken;
        }

        private void handOut(int cells) {
            int left = cells;
            for (int k = 0; k < count && left > 0; k++) {
                if (at(free, k) == 1) {
                    put(given, k, at(given, k) + 1);
                    left--;
                }
            }
        }
    }

    /** All that undo brings back: the window, the panes, what there is, and the layouts. */
    private static final class State {
        private int width = 100;
        private int height = 60;
        private int panes;
        private final int[] least = new int[AXES * MOST_PANES];
        private final Layout layout = new Layout();
        private final Layout[] kept = new Layout[LAYOUTS];
        private final int[] has = new int[LAYOUTS];

        State() {
            for (int place = 0; place < kept.length; place++) {
                kept[place] = new Layout();
            }
        }

        void copyFrom(State other) {
            width = other.width;
            height = other.height;
            panes = other.panes;
            copyRow(other.least, least);
            layout.copyFrom(other.layout);
            copyRow(other.has, has);
            for (int place = 0; place < LAYOUTS; place++) {
                Layout from = other.keptAt(place);
                Layout to = keptAt(place);
                if (hasKept(place) && from != null && to != null) {
                    to.copyFrom(from);
                }
            }
        }

        int leastOf(int pane, int axis) {
            return at(least, AXES * pane + axis);
        }

        void changeLeast(int pane, int leastWidth, int leastHeight) {
            put(least, AXES * pane + WIDTH, leastWidth);
            put(least, AXES * pane + HEIGHT, leastHeight);
        }

        void appendPane(int leastWidth, int leastHeight) {
            changeLeast(panes, leastWidth, leastHeight);
            panes++;
        }

        boolean hasKept(int place) {
            return at(has, place) == 1;
        }

        void keep(int place) {
            Layout to = keptAt(place);
            if (to != null) {
                to.copyFrom(layout);
                put(has, place, 1);
            }
        }

        void takeKept(int place) {
            Layout from = keptAt(place);
            if (from != null) {
                layout.copyFrom(from);
            }
        }

        private Layout keptAt(int place) {
            return place >= 0 && place < kept.length ? kept[place] : null;
        }
    }

    /** The undo stack: the latest states, in rows that are used again. */
    private static final class History {
        private final State[] saved = new State[MOST_SAVED];
        private int depth;
        private int next;

        History() {
            for (int k = 0; k < saved.length; k++) {
                saved[k] = new State();
            }
        }

        int depth() {
            return depth;
        }

        void push(State state) {
            State to = savedAt(next);
            if (to != null) {
                to.copyFrom(state);
                next = next + 1 < MOST_SAVED ? next + 1 : 0;
                depth = Math.min(depth + 1, MOST_SAVED);
            }
        }

        void popInto(State state) {
            int latest = next > 0 ? next - 1 : MOST_SAVED - 1;
            State from = savedAt(latest);
            if (from != null && depth > 0) {
                state.copyFrom(from);
                next = latest;
                depth--;
            }
        }

        private State savedAt(int index) {
            return index >= 0 && index < saved.length ? saved[index] : null;
        }
    }

    /** The commands of texts, each with the count of its numbers. */
    private enum Command {
        PANE("pane", 2), EDGE("edge", 2), DOCK("dock", 3), FLOAT("float", 5),
        CLOSE("close", 1), SHARE("share", 2), SAVE("save", 1), LOAD("load", 1);

        private static final Command[] ALL = values();
        private final String word;
        private final int numbers;

        Command(String word, int numbers) {
            this.word = word;
            this.numbers = numbers;
        }
    }

    /** The command text, and what reads it, one command after the other. */
    private static final class CommandText {
        private static final int MOST_NUMBERS = 5;
        private static final int MOST_DIGITS = 3;

        private final int[] bytes = new int[MOST_BYTES];
        private final int[] numbers = new int[MOST_NUMBERS];
        private int length;
        private int cursor;
        private int fault = NONE;
        private Command command;

        int length() {
            return length;
        }

        void append(int value) {
            put(bytes, length, value);
            length = Math.min(length + 1, MOST_BYTES);
        }

        void empty() {
            length = 0;
        }

        /** The fault of the text, or NONE. */
        int faultOfAll() {
            startReading();
            int read = 0;
            while (read < MOST_BYTES && readNext()) {
                read++;
            }
            return fault;
        }

        void startReading() {
            cursor = 0;
            fault = NONE;
        }

        Command command() {
            return command;
        }

        int number(int index) {
            return at(numbers, index);
        }

        /** Reads a command; false at the end of the text, and at a fault, which can be the text's length. */
        boolean readNext() {
            skipSpaces();
            if (cursor >= length) {
                return false;
            }
            readWord();
            int wanted = command != null ? command.numbers : 0;
            for (int k = 0; k < wanted && fault == NONE; k++) {
                readNumber(k);
            }
            if (fault == NONE) {
                skipSpaces();
                pass(here() == ';');
            }
            return fault == NONE;
        }

        private void readWord() {
            int from = cursor;
            while (cursor < length && here() >= 'a' && here() <= 'z') {
                cursor++;
            }
            command = null;
            for (Command one : Command.ALL) {
                if (isWord(one.word, from)) {
                    command = one;
                }
            }
            if (command == null) {
                fault = from;
            }
        }

        private boolean isWord(String word, int from) {
            boolean same = word.length() == cursor - from;
            for (int k = 0; same && k < word.length(); k++) {
                same = at(bytes, from + k) == word.charAt(k);
            }
            return same;
        }

        private void readNumber(int index) {
            pass(here() == ' ');
            if (fault != NONE) {
                return;
            }
            skipSpaces();
            int value = 0;
            int digits = 0;
            while (digits < MOST_DIGITS && isDigitHere()) {
                value = 10 * value + here() - '0';
                digits++;
                cursor++;
            }
            if (digits == 0) {
                fault = cursor;
            }
            put(numbers, index, value);
        }

        private void pass(boolean allowed) {
            if (allowed) {
                cursor++;
            } else {
                fault = cursor;
            }
        }

        private void skipSpaces() {
            while (cursor < length && here() == ' ') {
                cursor++;
            }
        }

        private boolean isDigitHere() {
            return here() >= '0' && here() <= '9';
        }

        private int here() {
            return cursor < length ? at(bytes, cursor) : NONE;
        }
    }
}
