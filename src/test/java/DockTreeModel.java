import java.util.ArrayDeque;
import java.util.ArrayList;
import java.util.Deque;
import java.util.IdentityHashMap;
import java.util.List;
import java.util.Map;
import java.util.regex.Matcher;
import java.util.regex.Pattern;

/**
 * The document once more, written in another way (nodes that hold nodes, boxes worked out anew for each question,
 * regular expressions for the texts), so that RandomRunsTest has answers to compare with.
 */
final class DockTreeModel {
    private static final String[] WORDS = {"pane", "edge", "dock", "float", "close", "share", "save", "load"};
    private static final int[] NUMBERS = {2, 2, 3, 5, 1, 2, 1, 1};

    private static final class Node {
        List<Node> children;          // of a split
        boolean vertical;             // of a split
        List<Integer> tabs;           // of a group
        int active;                   // of a group
        int[] floatBox;               // of a floating group
        int weight = 1;

        static Node group(int pane) {
            Node node = new Node();
            node.tabs = new ArrayList<>(List.of(pane));
            node.active = pane;
            return node;
        }

        Node copy() {
            Node node = new Node();
            node.vertical = vertical;
            node.active = active;
            node.weight = weight;
            node.floatBox = floatBox == null ? null : floatBox.clone();
            node.tabs = tabs == null ? null : new ArrayList<>(tabs);
            if (children != null) {
                node.children = new ArrayList<>();
                for (Node child : children) {
                    node.children.add(child.copy());
                }
            }
            return node;
        }

        void groupsInto(List<Node> found) {
            if (tabs != null) {
                found.add(this);
            } else {
                for (Node child : children) {
                    child.groupsInto(found);
                }
            }
        }

        void splitsInto(List<Node> found) {
            if (children != null) {
                found.add(this);
                for (Node child : children) {
                    child.splitsInto(found);
                }
            }
        }
    }

    private static final class Layout {
        Node root;
        List<Node> floats = new ArrayList<>();

        Layout copy() {
            Layout copy = new Layout();
            copy.root = root == null ? null : root.copy();
            for (Node group : floats) {
                copy.floats.add(group.copy());
            }
            return copy;
        }

        List<Node> groups() {
            List<Node> found = new ArrayList<>();
            if (root != null) {
                root.groupsInto(found);
            }
            return found;
        }

        List<Node> splits() {
            List<Node> found = new ArrayList<>();
            if (root != null) {
                root.splitsInto(found);
            }
            return found;
        }

        Node docked(int pane) {
            for (Node group : groups()) {
                if (group.tabs.contains(pane)) {
                    return group;
                }
            }
            return null;
        }

        Node floating(int pane) {
            for (Node group : floats) {
                if (group.tabs.contains(pane)) {
                    return group;
                }
            }
            return null;
        }

        Node holding(int pane) {
            Node group = docked(pane);
            return group == null ? floating(pane) : group;
        }

        Node parent(Node node) {
            for (Node split : splits()) {
                if (indexOf(split.children, node) >= 0) {
                    return split;
                }
            }
            return null;
        }

        void put(Node old, Node fresh) {
            Node parent = parent(old);
            if (parent == null) {
                root = fresh;
            } else {
                parent.children.set(indexOf(parent.children, old), fresh);
                fresh.weight = old.weight;
            }
        }

        void takeAway(int pane) {
            Node group = holding(pane);
            if (group == null) {
                return;
            }
            int place = group.tabs.indexOf(pane);
            group.tabs.remove(place);
            if (!group.tabs.isEmpty()) {
                if (group.active == pane) {
                    group.active = group.tabs.get(place < group.tabs.size() ? place : group.tabs.size() - 1);
                }
                return;
            }
            int floor = indexOf(floats, group);
            if (floor >= 0) {
                floats.remove(floor);
                return;
            }
            Node parent = parent(group);
            if (parent == null) {
                root = null;
                return;
            }
            parent.children.remove(indexOf(parent.children, group));
            if (parent.children.size() == 1) {
                put(parent, parent.children.get(0));
            }
        }

        void split(Node old, Node fresh, int side) {
            Node split = new Node();
            split.vertical = side >= 2;
            put(old, split);
            split.children = new ArrayList<>(side % 2 == 0 ? List.of(fresh, old) : List.of(old, fresh));
            old.weight = 1;
            fresh.weight = 1;
        }

        void dock(int pane, int target, int side) {
            takeAway(pane);
            Node at = holding(target);
            if (side == 4) {
                at.tabs.add(pane);
                at.active = pane;
                return;
            }
            Node fresh = Node.group(pane);
            Node parent = parent(at);
            if (parent != null && parent.vertical == side >= 2) {
                fresh.weight = at.weight;
                parent.children.add(indexOf(parent.children, at) + side % 2, fresh);
            } else {
                split(at, fresh, side);
            }
        }

        void dockAtEdge(int pane, int side) {
            takeAway(pane);
            Node fresh = Node.group(pane);
            if (root == null) {
                root = fresh;
            } else if (root.children != null && root.vertical == side >= 2) {
                int place = side % 2 == 0 ? 0 : root.children.size();
                fresh.weight = root.children.get(side % 2 == 0 ? 0 : place - 1).weight;
                root.children.add(place, fresh);
            } else {
                split(root, fresh, side);
            }
        }
    }

    private static int indexOf(List<Node> nodes, Node wanted) {
        for (int k = 0; k < nodes.size(); k++) {
            if (nodes.get(k) == wanted) {
                return k;
            }
        }
        return -1;
    }

    private static final class State {
        int width = 100;
        int height = 60;
        List<int[]> least = new ArrayList<>();
        Layout layout = new Layout();
        Layout[] kept = new Layout[4];

        State copy() {
            State copy = new State();
            copy.width = width;
            copy.height = height;
            for (int[] one : least) {
                copy.least.add(one.clone());
            }
            copy.layout = layout.copy();
            for (int k = 0; k < 4; k++) {
                copy.kept[k] = kept[k] == null ? null : kept[k].copy();
            }
            return copy;
        }
    }

    private State now = new State();
    private final Deque<State> undo = new ArrayDeque<>();
    private final StringBuilder text = new StringBuilder();
    private boolean saving = true;

    private void remember() {
        if (saving) {
            undo.addLast(now.copy());
            if (undo.size() > 4) {
                undo.removeFirst();
            }
        }
    }

    private void needPane(int pane) {
        if (pane < 0 || pane >= now.least.size()) {
            throw new IndexOutOfBoundsException();
        }
    }

    private static void need(boolean argument) {
        if (!argument) {
            throw new IllegalArgumentException();
        }
    }

    private static void needState(boolean state) {
        if (!state) {
            throw new IllegalStateException();
        }
    }

    private static boolean in(int value, int least, int most) {
        return value >= least && value <= most;
    }

    // ---- sizes

    private int least(Node node, boolean height) {
        int greatest = 0;
        int sum = 0;
        if (node.tabs != null) {
            for (int pane : node.tabs) {
                greatest = Math.max(greatest, now.least.get(pane)[height ? 1 : 0]);
            }
            return height ? greatest + 1 : greatest;
        }
        for (Node child : node.children) {
            greatest = Math.max(greatest, least(child, height));
            sum += least(child, height);
        }
        return node.vertical == height ? sum + node.children.size() - 1 : greatest;
    }

    private static int along(Node split, int[] box) {
        return split.vertical ? box[3] : box[2];
    }

    private static int toShare(Node split, int[] box) {
        return Math.max(0, along(split, box) - (split.children.size() - 1));
    }

    private boolean tight(Node split, int[] box) {
        int sum = 0;
        for (Node child : split.children) {
            sum += least(child, split.vertical);
        }
        return sum >= toShare(split, box);
    }

    private int[] parts(Node split, int[] box) {
        int n = split.children.size();
        int cells = toShare(split, box);
        long[] part = new long[n];
        List<Integer> sharing = new ArrayList<>();
        for (int k = 0; k < n; k++) {
            sharing.add(k);
        }
        long rest = cells;
        if (tight(split, box)) {
            long sum = 0;
            for (Node child : split.children) {
                sum += least(child, split.vertical);
            }
            for (int k = 0; k < n; k++) {
                part[k] = Math.floorDiv((long) cells * least(split.children.get(k), split.vertical), sum);
            }
        } else {
            while (true) {
                long weights = 0;
                for (int k : sharing) {
                    weights += split.children.get(k).weight;
                }
                List<Integer> few = new ArrayList<>();
                for (int k : sharing) {
                    part[k] = Math.floorDiv(rest * split.children.get(k).weight, weights);
                    if (part[k] < least(split.children.get(k), split.vertical)) {
                        few.add(k);
                    }
                }
                if (few.isEmpty()) {
                    break;
                }
                for (int k : few) {
                    part[k] = least(split.children.get(k), split.vertical);
                    rest -= part[k];
                }
                sharing.removeAll(few);
            }
        }
        for (int k : sharing) {
            rest -= part[k];
        }
        for (int k : sharing) {
            if (rest > 0) {
                part[k]++;
                rest--;
            }
        }
        int[] cellsOf = new int[n];
        for (int k = 0; k < n; k++) {
            cellsOf[k] = (int) part[k];
        }
        return cellsOf;
    }

    private void place(Node node, int[] box, Map<Node, int[]> boxes) {
        boxes.put(node, box);
        if (node.children == null) {
            return;
        }
        int[] parts = parts(node, box);
        int from = node.vertical ? box[1] : box[0];
        for (int k = 0; k < parts.length; k++) {
            int[] part = node.vertical ? new int[] {box[0], from, box[2], parts[k]}
                    : new int[] {from, box[1], parts[k], box[3]};
            place(node.children.get(k), part, boxes);
            from += parts[k] + 1;
        }
    }

    private Map<Node, int[]> boxes(Layout layout, int width, int height) {
        Map<Node, int[]> boxes = new IdentityHashMap<>();
        if (layout.root != null) {
            place(layout.root, new int[] {0, 0, width, height}, boxes);
        }
        for (Node group : layout.floats) {
            boxes.put(group, group.floatBox);
        }
        return boxes;
    }

    private Map<Node, int[]> boxes() {
        return boxes(now.layout, now.width, now.height);
    }

    private int tightSplits(int width, int height) {
        Map<Node, int[]> boxes = boxes(now.layout, width, height);
        int count = 0;
        for (Node split : now.layout.splits()) {
            count += tight(split, boxes.get(split)) ? 1 : 0;
        }
        return count;
    }

    // ---- window and panes

    int setWindow(int width, int height) {
        need(in(width, 20, 400) && in(height, 20, 400));
        remember();
        int before = 1000 * now.width + now.height;
        now.width = width;
        now.height = height;
        return before;
    }

    int addPane(int width, int height) {
        need(in(width, 1, 60) && in(height, 1, 60));
        needState(now.least.size() < 16);
        remember();
        now.least.add(new int[] {width, height});
        return now.least.size() - 1;
    }

    int setLeast(int pane, int width, int height) {
        needPane(pane);
        need(in(width, 1, 60) && in(height, 1, 60));
        remember();
        int[] before = now.least.set(pane, new int[] {width, height});
        return 1000 * before[0] + before[1];
    }

    private void needDocking(int pane, int target, int side) {
        needPane(pane);
        needPane(target);
        need(pane != target && in(side, 0, 4));
        needState(now.layout.docked(target) != null || now.layout.floating(target) != null && side == 4);
    }

    int dock(int pane, int target, int side) {
        needDocking(pane, target, side);
        remember();
        now.layout.dock(pane, target, side);
        return now.layout.holding(pane).tabs.size();
    }

    int dockAtEdge(int pane, int side) {
        needPane(pane);
        need(in(side, 0, 3));
        remember();
        now.layout.dockAtEdge(pane, side);
        return now.layout.groups().size();
    }

    int floatAt(int pane, int x, int y, int width, int height) {
        needPane(pane);
        need(in(x, 0, 399) && in(y, 0, 399) && in(width, 1, 400) && in(height, 1, 400));
        remember();
        now.layout.takeAway(pane);
        Node group = Node.group(pane);
        group.floatBox = new int[] {x, y, width, height};
        now.layout.floats.add(group);
        return now.layout.floats.size();
    }

    int raise(int pane) {
        needPane(pane);
        needState(now.layout.floating(pane) != null);
        remember();
        Node group = now.layout.floating(pane);
        int before = indexOf(now.layout.floats, group);
        now.layout.floats.remove(before);
        now.layout.floats.add(group);
        return before;
    }

    private int state(int pane) {
        return now.layout.docked(pane) != null ? 1 : now.layout.floating(pane) != null ? 2 : 0;
    }

    int close(int pane) {
        needPane(pane);
        remember();
        int before = state(pane);
        now.layout.takeAway(pane);
        return before;
    }

    int activate(int pane) {
        needPane(pane);
        needState(state(pane) != 0);
        remember();
        Node group = now.layout.holding(pane);
        int before = group.active;
        group.active = pane;
        return before;
    }

    int moveTab(int pane, int place) {
        needPane(pane);
        needState(state(pane) != 0);
        need(in(place, 0, now.layout.holding(pane).tabs.size() - 1));
        remember();
        List<Integer> tabs = now.layout.holding(pane).tabs;
        int before = tabs.indexOf(pane);
        tabs.remove(before);
        tabs.add(place, pane);
        return before;
    }

    int setShare(int pane, int weight) {
        needPane(pane);
        need(in(weight, 1, 1000000));
        needState(state(pane) == 1 && now.layout.docked(pane) != now.layout.root);
        remember();
        Node group = now.layout.docked(pane);
        int before = group.weight;
        group.weight = weight;
        return before;
    }

    int drag(int pane, int cells) {
        needPane(pane);
        need(in(cells, -400, 400));
        Node group = now.layout.docked(pane);
        needState(group != null && group != now.layout.root);
        Node split = now.layout.parent(group);
        int place = indexOf(split.children, group);
        needState(place < split.children.size() - 1);
        int[] box = boxes().get(split);
        needState(!tight(split, box));
        int[] parts = parts(split, box);
        Node next = split.children.get(place + 1);
        needState(parts[place] + cells >= least(group, split.vertical));
        needState(parts[place + 1] - cells >= least(next, split.vertical));
        remember();
        for (int k = 0; k < parts.length; k++) {
            split.children.get(k).weight = parts[k];
        }
        group.weight += cells;
        next.weight -= cells;
        return parts(split, box)[place];
    }

    // ---- layouts

    int save(int place) {
        need(in(place, 0, 3));
        remember();
        int before = now.kept[place] == null ? 0 : 1;
        now.kept[place] = now.layout.copy();
        return before;
    }

    int bringBack(int place) {
        need(in(place, 0, 3));
        needState(now.kept[place] != null);
        remember();
        now.layout = now.kept[place].copy();
        return whole(3) + whole(4);
    }

    // ---- values

    int pane(int pane, int what) {
        needPane(pane);
        need(in(what, 0, 11));
        if (what < 2) {
            return now.least.get(pane)[what];
        }
        Node group = now.layout.holding(pane);
        if (what == 2 || group == null) {
            return what == 2 ? state(pane) : -1;
        }
        int[] box = boxes().get(group);
        Node parent = now.layout.parent(group);
        int above = 0;
        for (Node node = parent; node != null; node = now.layout.parent(node)) {
            above++;
        }
        int[] values = {box[0], box[1] + 1, box[2], Math.max(0, box[3] - 1), group.active == pane ? 1 : 0,
                group.tabs.indexOf(pane), group.tabs.size(), parent == null ? -1 : group.weight, above};
        return values[what - 3];
    }

    int split(int pane, int level, int what) {
        needPane(pane);
        need(level >= 0 && in(what, 0, 7));
        Node below = now.layout.docked(pane);
        if (below == null) {
            return -1;
        }
        Node split = now.layout.parent(below);
        for (int k = 0; k < level && split != null; k++) {
            below = split;
            split = now.layout.parent(below);
        }
        if (split == null) {
            return -1;
        }
        int[] box = boxes().get(split);
        int[] values = {split.vertical ? 1 : 0, split.children.size(), indexOf(split.children, below),
                least(split, false), least(split, true), box[2], box[3], tight(split, box) ? 1 : 0};
        return values[what];
    }

    int paneAt(int x, int y) {
        if (!in(x, 0, now.width - 1) || !in(y, 0, now.height - 1)) {
            throw new IndexOutOfBoundsException();
        }
        List<Node> fromTop = new ArrayList<>();
        for (Node group : now.layout.floats) {
            fromTop.add(0, group);
        }
        fromTop.addAll(now.layout.groups());
        Map<Node, int[]> boxes = boxes();
        for (Node group : fromTop) {
            int[] box = boxes.get(group);
            if (in(x, box[0], box[0] + box[2] - 1) && in(y, box[1], box[1] + box[3] - 1)) {
                return group.active;
            }
        }
        return -1;
    }

    int tab(int pane, int place) {
        needPane(pane);
        need(place >= 0);
        Node group = now.layout.holding(pane);
        return group == null || place >= group.tabs.size() ? -1 : group.tabs.get(place);
    }

    private static int activeOf(List<Node> groups, int index) {
        need(index >= 0);
        return index < groups.size() ? groups.get(index).active : -1;
    }

    int group(int index) {
        return activeOf(now.layout.groups(), index);
    }

    int floating(int index) {
        return activeOf(now.layout.floats, index);
    }

    int whole(int what) {
        need(in(what, 0, 11));
        Layout layout = now.layout;
        int docked = 0;
        int floating = 0;
        int dividers = 0;
        for (Node group : layout.groups()) {
            docked += group.tabs.size();
        }
        for (Node group : layout.floats) {
            floating += group.tabs.size();
        }
        Map<Node, int[]> boxes = boxes();
        for (Node split : layout.splits()) {
            int[] box = boxes.get(split);
            dividers += (split.children.size() - 1) * (split.vertical ? box[2] : box[3]);
        }
        int leastWidth = layout.root == null ? 0 : least(layout.root, false);
        int leastHeight = layout.root == null ? 0 : least(layout.root, true);
        int[] values = {now.width, now.height, now.least.size(), docked, floating, layout.groups().size(),
                layout.splits().size(), layout.floats.size(), leastWidth, leastHeight,
                tightSplits(now.width, now.height), dividers};
        return values[what];
    }

    // ---- what if

    int tightIn(int width, int height) {
        need(in(width, 20, 400) && in(height, 20, 400));
        return tightSplits(width, height);
    }

    int cellsIf(int pane, int target, int side) {
        needDocking(pane, target, side);
        Layout trial = now.layout.copy();
        trial.dock(pane, target, side);
        int[] box = boxes(trial, now.width, now.height).get(trial.holding(pane));
        return box[2] * Math.max(0, box[3] - 1);
    }

    int bestSide(int pane, int target) {
        needPane(pane);
        needPane(target);
        need(pane != target);
        needState(state(target) == 1);
        int best = 0;
        for (int side = 1; side < 4; side++) {
            if (cellsIf(pane, target, side) > cellsIf(pane, target, best)) {
                best = side;
            }
        }
        return best;
    }

    // ---- command text, undo and checksum

    int type(int value) {
        need(in(value, 0, 127));
        needState(text.length() < 150);
        text.append((char) value);
        return text.length();
    }

    int clearCommands() {
        int before = text.length();
        text.setLength(0);
        return before;
    }

    /** The fault, or -1; the commands go into the list, the number of the word ahead of the numbers. */
    private int read(List<int[]> commands) {
        String all = text.toString();
        int from = 0;
        while (true) {
            while (from < all.length() && all.charAt(from) == ' ') {
                from++;
            }
            if (from == all.length()) {
                return -1;
            }
            Matcher letters = Pattern.compile("[a-z]*").matcher(all).region(from, all.length());
            letters.lookingAt();
            int word = List.of(WORDS).indexOf(letters.group());
            if (word < 0) {
                return from;
            }
            Pattern rest = Pattern.compile("( +[0-9]{1,3}){" + NUMBERS[word] + "} *;");
            int behind = letters.end();
            Matcher matcher = rest.matcher(all).region(behind, all.length());
            if (!matcher.lookingAt()) {
                return firstWrong(rest, all, behind);
            }
            String[] numbers = all.substring(behind, matcher.end() - 1).trim().split(" +");
            int[] command = new int[1 + numbers.length];
            command[0] = word;
            for (int k = 0; k < numbers.length; k++) {
                command[k + 1] = Integer.parseInt(numbers[k]);
            }
            commands.add(command);
            from = matcher.end();
        }
    }

    private static int firstWrong(Pattern rest, String all, int from) {
        for (int end = from + 1; end <= all.length(); end++) {
            Matcher matcher = rest.matcher(all.substring(from, end));
            if (!matcher.matches() && !matcher.hitEnd()) {
                return end - 1;
            }
        }
        return all.length();
    }

    private void carryOut(int[] c) {
        switch (WORDS[c[0]]) {
            case "pane" -> addPane(c[1], c[2]);
            case "edge" -> dockAtEdge(c[1], c[2]);
            case "dock" -> dock(c[1], c[2], c[3]);
            case "float" -> floatAt(c[1], c[2], c[3], c[4], c[5]);
            case "close" -> close(c[1]);
            case "share" -> setShare(c[1], c[2]);
            case "save" -> save(c[1]);
            default -> bringBack(c[1]);
        }
    }

    int runCommands() {
        List<int[]> commands = new ArrayList<>();
        int fault = read(commands);
        if (fault >= 0) {
            return -10 - fault;
        }
        remember();
        saving = false;
        int done = 0;
        try {
            for (int[] command : commands) {
                carryOut(command);
                done++;
            }
        } catch (RuntimeException e) {
            // The command that would throw ends the run.
        }
        saving = true;
        return done;
    }

    int undo() {
        needState(!undo.isEmpty());
        now = undo.removeLast();
        return undo.size();
    }

    long digest() {
        List<Integer> values = new ArrayList<>(List.of(undo.size(), text.length()));
        for (int what = 0; what <= 11; what++) {
            values.add(whole(what));
        }
        for (int pane = 0; pane < now.least.size(); pane++) {
            for (int what = 0; what <= 11; what++) {
                values.add(pane(pane, what));
            }
            values.add(tab(pane, 0));
            values.add(tab(pane, 1));
        }
        for (int pane = 0; pane < now.least.size(); pane++) {
            for (int level = 0; split(pane, level, 0) != -1; level++) {
                for (int what = 0; what <= 7; what++) {
                    values.add(split(pane, level, what));
                }
            }
        }
        for (int k = 0; group(k) != -1; k++) {
            values.add(group(k));
        }
        for (int k = 0; floating(k) != -1; k++) {
            values.add(floating(k));
        }
        for (int k = 0; k < 4; k++) {
            values.add(now.kept[k] == null ? 0 : 1);
        }
        long h = 43151;
        for (int value : values) {
            h = 31 * h + value;
        }
        return h;
    }
}
