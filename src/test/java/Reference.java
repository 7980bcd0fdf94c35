import java.util.ArrayList;
import java.util.HashMap;
import java.util.HashSet;
import java.util.List;
import java.util.Map;
import java.util.Set;
import java.util.TreeSet;

/**
 * The document again, as slowly and literally as can be: traces are texts of digits, parts are joined pair by
 * pair, and words are split and mixed in every way, without any use of what is known about mined trees.
 */
final class Reference {
    private String buffer = "";
    private final List<String> traces = new ArrayList<>();
    private final List<Integer> times = new ArrayList<>();
    private List<Node> nodes = null;
    final int[] seenKinds = new int[7];

    static final class Node {
        final int kind;
        final String label;
        final List<Node> children = new ArrayList<>();
        Node parent = null;
        final Map<String, Boolean> known = new HashMap<>();

        Node(int kind, String label) {
            this.kind = kind;
            this.label = label;
        }

        Node with(Node child) {
            children.add(child);
            child.parent = this;
            return this;
        }

        TreeSet<Character> labels() {
            TreeSet<Character> all = new TreeSet<>();
            for (char c : label.toCharArray()) {
                all.add(c);
            }
            for (Node child : children) {
                all.addAll(child.labels());
            }
            return all;
        }

        int levels() {
            int most = 0;
            for (Node child : children) {
                most = Math.max(most, child.levels());
            }
            return most + 1;
        }

        int least() {
            switch (kind) {
                case 1:
                    return 1;
                case 2:
                    return children.stream().mapToInt(Node::least).min().getAsInt();
                case 3:
                case 4:
                    return children.stream().mapToInt(Node::least).sum();
                case 5:
                    return children.get(0).least();
                default:
                    return 0;
            }
        }

        boolean has(String word) {
            Boolean before = known.get(word);
            if (before == null) {
                before = find(word);
                known.put(word, before);
            }
            return before;
        }

        private boolean find(String word) {
            switch (kind) {
                case 0:
                    return word.isEmpty();
                case 1:
                    return word.equals(label);
                case 2:
                    return children.stream().anyMatch(c -> c.has(word));
                case 3:
                    return isInOrder(word, 0);
                case 4:
                    return isMixed(word, 0);
                case 5:
                    return isAgain(word, 0, new HashSet<>());
                default:
                    return word.chars().allMatch(c -> label.indexOf(c) >= 0);
            }
        }

        private boolean isInOrder(String word, int index) {
            if (index == children.size()) {
                return word.isEmpty();
            }
            for (int cut = 0; cut <= word.length(); cut++) {
                if (children.get(index).has(word.substring(0, cut)) && isInOrder(word.substring(cut), index + 1)) {
                    return true;
                }
            }
            return false;
        }

        private boolean isMixed(String word, int index) {
            if (index == children.size()) {
                return word.isEmpty();
            }
            for (int chosen = 0; chosen < 1 << word.length(); chosen++) {
                StringBuilder taken = new StringBuilder();
                StringBuilder left = new StringBuilder();
                for (int i = 0; i < word.length(); i++) {
                    ((chosen >> i & 1) != 0 ? taken : left).append(word.charAt(i));
                }
                if (children.get(index).has(taken.toString()) && isMixed(left.toString(), index + 1)) {
                    return true;
                }
            }
            return false;
        }

        // Turn 0 wants a word of the first child, turn 1 one of the others; a word may end behind turn 0.
        private boolean isAgain(String word, int turn, Set<String> tried) {
            if (!tried.add(turn + ":" + word)) {
                return false;
            }
            for (int cut = 0; cut <= word.length(); cut++) {
                String head = word.substring(0, cut);
                String tail = word.substring(cut);
                if (turn == 0 && children.get(0).has(head) && (tail.isEmpty() || isAgain(tail, 1, tried))) {
                    return true;
                }
                for (int i = 1; turn == 1 && i < children.size(); i++) {
                    if (children.get(i).has(head) && isAgain(tail, 0, tried)) {
                        return true;
                    }
                }
            }
            return false;
        }
    }

    /** How the labels of some traces follow each other. */
    static final class Relations {
        final TreeSet<Character> used = new TreeSet<>();
        final TreeSet<Character> begin = new TreeSet<>();
        final TreeSet<Character> end = new TreeSet<>();
        final Set<String> pairs = new HashSet<>();

        Relations(List<String> log) {
            for (String trace : log) {
                for (int i = 0; i < trace.length(); i++) {
                    used.add(trace.charAt(i));
                    if (i > 0) {
                        pairs.add(trace.substring(i - 1, i + 1));
                    }
                }
                if (!trace.isEmpty()) {
                    begin.add(trace.charAt(0));
                    end.add(trace.charAt(trace.length() - 1));
                }
            }
        }

        boolean follows(char a, char b) {
            return pairs.contains("" + a + b);
        }

        boolean leads(char a, char b) {
            Set<Character> found = new HashSet<>();
            List<Character> open = new ArrayList<>(List.of(a));
            while (!open.isEmpty()) {
                char at = open.remove(0);
                for (char c = '0'; c <= '7'; c++) {
                    if (follows(at, c) && found.add(c)) {
                        open.add(c);
                    }
                }
            }
            return found.contains(b);
        }
    }

    interface Together {
        boolean test(char a, char b);
    }

    private static List<TreeSet<Character>> part(TreeSet<Character> labels, Together together) {
        List<TreeSet<Character>> parts = new ArrayList<>();
        for (char c : labels) {
            parts.add(new TreeSet<>(Set.of(c)));
        }
        boolean joined = true;
        while (joined) {
            joined = false;
            for (int i = 0; i < parts.size() && !joined; i++) {
                for (int j = i + 1; j < parts.size() && !joined; j++) {
                    if (touch(parts.get(i), parts.get(j), together)) {
                        parts.get(i).addAll(parts.remove(j));
                        joined = true;
                    }
                }
            }
        }
        return sorted(parts);
    }

    private static boolean touch(TreeSet<Character> one, TreeSet<Character> other, Together together) {
        for (char a : one) {
            for (char b : other) {
                if (together.test(a, b) || together.test(b, a)) {
                    return true;
                }
            }
        }
        return false;
    }

    private static List<TreeSet<Character>> sorted(List<TreeSet<Character>> parts) {
        parts.sort((p, q) -> p.first() - q.first());
        return parts;
    }

    private static String only(String trace, Set<Character> part) {
        StringBuilder text = new StringBuilder();
        for (char c : trace.toCharArray()) {
            if (part.contains(c)) {
                text.append(c);
            }
        }
        return text.toString();
    }

    private static List<String> onlyAll(List<String> log, Set<Character> part, boolean keepsEmpty) {
        List<String> result = new ArrayList<>();
        for (String trace : log) {
            String kept = only(trace, part);
            if (keepsEmpty || !kept.isEmpty()) {
                result.add(kept);
            }
        }
        return result;
    }

    private static Node treeOf(List<String> log) {
        Relations r = new Relations(log);
        if (r.used.isEmpty()) {
            return new Node(0, "");
        }
        if (log.contains("")) {
            return new Node(2, "").with(new Node(0, "")).with(treeOf(onlyAll(log, r.used, false)));
        }
        if (r.used.size() == 1) {
            String label = "" + r.used.first();
            Node leaf = new Node(1, label);
            return log.stream().allMatch(label::equals) ? leaf : new Node(5, "").with(leaf).with(new Node(0, ""));
        }
        Node node = choiceOf(log, r);
        node = node == null ? orderOf(log, r) : node;
        node = node == null ? bothOf(log, r) : node;
        node = node == null ? againOf(log, r) : node;
        return node == null ? new Node(6, only("01234567", r.used)) : node;
    }

    private static Node choiceOf(List<String> log, Relations r) {
        List<TreeSet<Character>> parts = part(r.used, (a, b) -> r.follows(a, b));
        if (parts.size() < 2) {
            return null;
        }
        Node node = new Node(2, "");
        parts.forEach(p -> node.with(treeOf(onlyAll(log, p, false))));
        return node;
    }

    private static Node orderOf(List<String> log, Relations r) {
        List<TreeSet<Character>> parts = part(r.used, (a, b) -> r.leads(a, b) == r.leads(b, a));
        if (parts.size() < 2) {
            return null;
        }
        parts.sort((p, q) -> p == q ? 0 : r.leads(p.first(), q.first()) ? -1 : 1);
        Node node = new Node(3, "");
        parts.forEach(p -> node.with(treeOf(onlyAll(log, p, true))));
        return node;
    }

    private static Node bothOf(List<String> log, Relations r) {
        List<TreeSet<Character>> parts = part(r.used, (a, b) -> !r.follows(a, b) || !r.follows(b, a));
        int lacking = lacking(parts, r);
        while (lacking >= 0) {
            TreeSet<Character> joined = parts.remove(lacking);
            joined.addAll(parts.remove(0));
            parts.add(joined);
            sorted(parts);
            lacking = lacking(parts, r);
        }
        if (parts.size() < 2) {
            return null;
        }
        Node node = new Node(4, "");
        parts.forEach(p -> node.with(treeOf(onlyAll(log, p, true))));
        return node;
    }

    private static int lacking(List<TreeSet<Character>> parts, Relations r) {
        for (int i = 0; i < parts.size(); i++) {
            boolean begins = parts.get(i).stream().anyMatch(r.begin::contains);
            boolean ends = parts.get(i).stream().anyMatch(r.end::contains);
            if (!begins || !ends) {
                return i;
            }
        }
        return -1;
    }

    private static Node againOf(List<String> log, Relations r) {
        TreeSet<Character> first = new TreeSet<>(r.begin);
        first.addAll(r.end);
        TreeSet<Character> others = new TreeSet<>(r.used);
        others.removeAll(first);
        List<TreeSet<Character>> parts = part(others, (a, b) -> r.follows(a, b));
        boolean joined = true;
        while (joined) {
            joined = false;
            for (int i = 0; i < parts.size() && !joined; i++) {
                if (isForFirst(first, parts.get(i), r)) {
                    first.addAll(parts.remove(i));
                    joined = true;
                }
            }
        }
        if (parts.isEmpty()) {
            return null;
        }
        parts.add(0, first);
        Node node = new Node(5, "");
        parts.forEach(p -> node.with(treeOf(pieces(log, parts, p))));
        return node;
    }

    private static boolean isForFirst(TreeSet<Character> first, TreeSet<Character> part, Relations r) {
        for (char a : first) {
            for (char b : part) {
                if (!r.end.contains(a) && r.follows(a, b) || !r.begin.contains(a) && r.follows(b, a)) {
                    return true;
                }
            }
        }
        return false;
    }

    private static List<String> pieces(List<String> log, List<TreeSet<Character>> parts, TreeSet<Character> wanted) {
        List<String> result = new ArrayList<>();
        for (String trace : log) {
            int start = 0;
            for (int i = 1; i <= trace.length(); i++) {
                if (i == trace.length() || partWith(parts, trace.charAt(i)) != partWith(parts, trace.charAt(i - 1))) {
                    if (wanted.contains(trace.charAt(start))) {
                        result.add(trace.substring(start, i));
                    }
                    start = i;
                }
            }
        }
        return result;
    }

    private static TreeSet<Character> partWith(List<TreeSet<Character>> parts, char label) {
        for (TreeSet<Character> part : parts) {
            if (part.contains(label)) {
                return part;
            }
        }
        return null;
    }

    private static int sum(Set<Character> labels) {
        int sum = 0;
        for (char c : labels) {
            sum += (int) Math.pow(2, c - '0');
        }
        return sum;
    }

    private static void number(Node node, List<Node> into) {
        into.add(node);
        node.children.forEach(c -> number(c, into));
    }

    private List<String> log() {
        List<String> log = new ArrayList<>();
        for (int t = 0; t < traces.size(); t++) {
            if (times.get(t) > 0) {
                log.add(traces.get(t));
            }
        }
        return log;
    }

    private static void bound(int x, int below) {
        if (x < 0 || x >= below) {
            throw new IndexOutOfBoundsException();
        }
    }

    private static void demand(boolean holds) {
        if (!holds) {
            throw new IllegalArgumentException();
        }
    }

    private static void allow(boolean holds) {
        if (!holds) {
            throw new IllegalStateException();
        }
    }

    private Node node(int node) {
        allow(nodes != null);
        bound(node, nodes.size());
        return nodes.get(node);
    }

    int event(int label) {
        bound(label, 8);
        allow(buffer.length() < 12);
        buffer += label;
        return buffer.length();
    }

    int endTrace(int count) {
        demand(count >= 0 && count <= 99);
        allow(traces.size() < 10);
        traces.add(buffer);
        times.add(count);
        buffer = "";
        nodes = null;
        return traces.size() - 1;
    }

    int setTimes(int trace, int count) {
        bound(trace, traces.size());
        demand(count >= 0 && count <= 99);
        nodes = null;
        return times.set(trace, count);
    }

    int dropTrace() {
        allow(!traces.isEmpty());
        traces.remove(traces.size() - 1);
        times.remove(times.size() - 1);
        nodes = null;
        return traces.size();
    }

    int traceCount() {
        return traces.size();
    }

    int length(int trace) {
        bound(trace, traces.size());
        return traces.get(trace).length();
    }

    int labelAt(int trace, int place) {
        bound(trace, traces.size());
        bound(place, traces.get(trace).length());
        return traces.get(trace).charAt(place) - '0';
    }

    int labels() {
        return sum(new Relations(log()).used);
    }

    int follows(int a, int b) {
        bound(a, 8);
        bound(b, 8);
        int count = 0;
        for (int t = 0; t < traces.size(); t++) {
            for (int i = 1; i < traces.get(t).length(); i++) {
                count += traces.get(t).startsWith("" + a + b, i - 1) ? times.get(t) : 0;
            }
        }
        return count;
    }

    int edges(boolean isEnd) {
        Relations r = new Relations(log());
        return sum(isEnd ? r.end : r.begin);
    }

    int relation(int a, int b) {
        boolean forth = follows(a, b) > 0;
        boolean back = follows(b, a) > 0;
        return forth && back ? 3 : back ? 2 : forth ? 1 : 0;
    }

    boolean leads(int a, int b) {
        bound(a, 8);
        bound(b, 8);
        return new Relations(log()).leads((char) ('0' + a), (char) ('0' + b));
    }

    int variants() {
        return new HashSet<>(log()).size();
    }

    int mine() {
        if (nodes == null) {
            nodes = new ArrayList<>();
            number(treeOf(log()), nodes);
            nodes.forEach(n -> seenKinds[n.kind]++);
        }
        return nodes.size();
    }

    int kind(int node) {
        return node(node).kind;
    }

    int labelsOf(int node) {
        return sum(node(node).labels());
    }

    int parent(int node) {
        return node(node).parent == null ? -1 : nodes.indexOf(node(node).parent);
    }

    int children(int node) {
        return node(node).children.size();
    }

    int child(int node, int index) {
        bound(index, node(node).children.size());
        return nodes.indexOf(node(node).children.get(index));
    }

    int shortest(int node) {
        return node(node).least();
    }

    int height() {
        return node(0).levels();
    }

    boolean accepts(int trace) {
        allow(nodes != null);
        bound(trace, traces.size());
        return nodes.get(0).has(traces.get(trace));
    }

    boolean acceptsBuffer() {
        return node(0).has(buffer);
    }

    double fitness() {
        Node root = node(0);
        double good = traces.stream().filter(root::has).count();
        return traces.isEmpty() ? 1.0 : good / traces.size();
    }

    int words(int length) {
        Node root = node(0);
        demand(length >= 0 && length <= 3);
        int count = 0;
        for (int code = 0; code < Math.pow(8, length); code++) {
            String word = "";
            for (int i = 0, rest = code; i < length; i++, rest /= 8) {
                word += rest % 8;
            }
            count += root.has(word) ? 1 : 0;
        }
        return count;
    }

    long digest() {
        List<Integer> row = new ArrayList<>();
        row.add(buffer.length());
        buffer.chars().forEach(c -> row.add(c - '0'));
        row.add(traces.size());
        for (int t = 0; t < traces.size(); t++) {
            row.add(times.get(t));
            row.add(traces.get(t).length());
            traces.get(t).chars().forEach(c -> row.add(c - '0'));
        }
        if (nodes != null) {
            row.add(nodes.size());
            for (Node node : nodes) {
                row.addAll(List.of(node.kind, sum(node.labels()), node.children.size()));
            }
        }
        long d = 167;
        for (int x : row) {
            d = d * 31 + x;
        }
        return d;
    }
}
