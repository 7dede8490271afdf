import java.util.ArrayList;
import java.util.HashSet;
import java.util.List;
import java.util.Map;
import java.util.NoSuchElementException;
import java.util.Set;
import java.util.TreeMap;

/** The document once more, in the plainest form and with the whole library, to compare with. */
final class Model {
    /** A chunk; its text tells everything below it too, so equal texts mean the same chunk. */
    record Node(int level, List<Integer> keys, List<Integer> values, List<Node> below) {
        int hash() {
            int h = mix(6, level);
            for (int i = 0; i < keys.size(); i++) {
                h = mix(mix(h, keys.get(i)), values.get(i));
            }
            return h;
        }

        int lastKey() {
            return keys.get(keys.size() - 1);
        }

        int choose(int key) {
            for (int i = 0; i < keys.size(); i++) {
                if (keys.get(i) >= key) {
                    return i;
                }
            }
            return keys.size() - 1;
        }

        String text() {
            StringBuilder text = new StringBuilder("(" + level);
            for (int i = 0; i < keys.size(); i++) {
                text.append(' ').append(keys.get(i)).append('=').append(values.get(i));
                text.append(below.isEmpty() ? "" : below.get(i).text());
            }
            return text.append(')').toString();
        }
    }

    private static final class Refused extends RuntimeException {
        private static final long serialVersionUID = 1L;
    }

    private final List<Map<Integer, Integer>> versions = new ArrayList<>();
    private final Set<String> store = new HashSet<>();
    private TreeMap<Integer, Integer> changes = new TreeMap<>();
    private int failing = 0;
    private List<Integer> latest = new ArrayList<>();
    private List<Integer> held = new ArrayList<>();
    private int seen = 0;

    Model() {
        versions.add(new TreeMap<>());
    }

    static int mix(int h, int x) {
        int g = (h ^ x) * 73244475;
        return g ^ (g >>> 15);
    }

    static int below(int n) {
        return Integer.highestOneBit(n - 1);
    }

    static int join(int a, int b) {
        return mix(mix(8, a), b);
    }

    static int leaf(int v, int root) {
        return mix(mix(7, v), root);
    }

    /** The levels of the tree, the lowest first. */
    static List<List<Node>> tree(Map<Integer, Integer> map) {
        List<List<Node>> levels = new ArrayList<>();
        List<Integer> keys = new ArrayList<>(map.keySet());
        List<Integer> values = new ArrayList<>(map.values());
        List<Node> under = new ArrayList<>();
        while (!keys.isEmpty()) {
            List<Node> level = cut(levels.size(), keys, values, under);
            levels.add(level);
            keys = new ArrayList<>();
            values = new ArrayList<>();
            under = level;
            for (Node node : level.size() > 1 ? level : List.<Node>of()) {
                keys.add(node.lastKey());
                values.add(node.hash());
            }
        }
        return levels;
    }

    private static List<Node> cut(int level, List<Integer> keys, List<Integer> values, List<Node> under) {
        List<Node> nodes = new ArrayList<>();
        int from = 0;
        for (int i = 0; i < keys.size(); i++) {
            boolean ends = mix(mix(mix(9, level), keys.get(i)), 5) % 4 == 0;
            if (ends || i == keys.size() - 1) {
                nodes.add(new Node(level, keys.subList(from, i + 1), values.subList(from, i + 1),
                        level == 0 ? List.of() : under.subList(from, i + 1)));
                from = i + 1;
            }
        }
        return nodes;
    }

    static int rootOf(Map<Integer, Integer> map) {
        List<List<Node>> levels = tree(map);
        return levels.isEmpty() ? 0 : levels.get(levels.size() - 1).get(0).hash();
    }

    private int seal(int from, int to) {
        if (to - from == 1) {
            return leaf(from, rootOf(versions.get(from)));
        }
        int m = from + below(to - from);
        return join(seal(from, m), seal(m, to));
    }

    private static void bad(boolean so) {
        if (so) {
            throw new IllegalArgumentException();
        }
    }

    private static void badKey(int key) {
        bad(key < 0 || key > 47);
    }

    private void badVersion(int v) {
        bad(v < 0 || v >= versions.size());
    }

    private void full() {
        if (versions.size() == 16) {
            throw new IllegalStateException();
        }
    }

    void put(int key, int value) {
        badKey(key);
        full();
        changes.put(key, value);
    }

    boolean delete(int key) {
        badKey(key);
        full();
        return changes.remove(key) != null;
    }

    private boolean writeFails() {
        return failing > 0 && --failing == 0;
    }

    int commit() {
        full();
        Map<Integer, Integer> version = new TreeMap<>(changes);
        for (List<Node> level : tree(version)) {
            for (Node node : level) {
                if (!store.contains(node.text())) {
                    if (writeFails()) {
                        rollback();
                        return -1;
                    }
                    store.add(node.text());
                }
            }
        }
        if (writeFails()) {
            rollback();
            return -1;
        }
        versions.add(version);
        return versions.size() - 1;
    }

    void rollback() {
        changes = new TreeMap<>(versions.get(versions.size() - 1));
    }

    boolean fail(int n) {
        boolean allowed = n >= 1 && n <= 40;
        failing = allowed ? n : failing;
        return allowed;
    }

    int chunks() {
        return store.size();
    }

    int versions() {
        return versions.size();
    }

    int get(int v, int key) {
        bad(v < -1 || v >= versions.size());
        badKey(key);
        Integer value = (v == -1 ? changes : versions.get(v)).get(key);
        if (value == null) {
            throw new NoSuchElementException();
        }
        return value;
    }

    int range(int v, int low, int high) {
        badVersion(v);
        int count = 0;
        for (int key : versions.get(v).keySet()) {
            count += low <= key && key <= high ? 1 : 0;
        }
        return count;
    }

    int root(int v) {
        badVersion(v);
        return rootOf(versions.get(v));
    }

    int digest(int n) {
        bad(n < 0 || n > versions.size());
        return n == 0 ? 0 : seal(0, n);
    }

    /** The parts beside leaf v, from the leaf up, each with its first leaf and the one behind its last. */
    static List<int[]> way(int from, int to, int v) {
        List<int[]> parts = new ArrayList<>();
        if (to - from > 1) {
            int m = from + below(to - from);
            parts.addAll(v < m ? way(from, m, v) : way(m, to, v));
            parts.add(v < m ? new int[] {m, to} : new int[] {from, m});
        }
        return parts;
    }

    static List<int[]> growth(int p, int q, int m) {
        List<int[]> parts = new ArrayList<>();
        int h = q == 1 ? 0 : below(q);
        if (m == q) {
            if (p != 0) {
                parts.add(new int[] {p, p + q});
            }
        } else if (m <= h) {
            parts.addAll(growth(p, h, m));
            parts.add(new int[] {p + h, p + q});
        } else {
            parts.addAll(growth(p + h, q - h, m - h));
            parts.add(new int[] {p, p + h});
        }
        return parts;
    }

    static void addInt(List<Integer> bytes, int word) {
        for (int shift = 24; shift >= 0; shift -= 8) {
            bytes.add((word >>> shift) & 255);
        }
    }

    private List<Integer> seals(List<int[]> parts) {
        List<Integer> bytes = new ArrayList<>();
        bytes.add(parts.size());
        for (int[] part : parts) {
            addInt(bytes, seal(part[0], part[1]));
        }
        return bytes;
    }

    int prove(int n, int v, int key) {
        bad(n > versions.size() || v < 0 || v >= n);
        badKey(key);
        List<Integer> bytes = seals(way(0, n, v));
        List<List<Node>> levels = tree(versions.get(v));
        bytes.add(levels.size());
        Node node = null;
        for (int level = levels.size() - 1; level >= 0; level--) {
            node = node == null ? levels.get(level).get(0) : node.below().get(node.choose(key));
            addNode(bytes, node);
        }
        latest = bytes;
        return bytes.size();
    }

    static void addNode(List<Integer> bytes, Node node) {
        bytes.add(node.keys().size());
        for (int i = 0; i < node.keys().size(); i++) {
            bytes.add(node.keys().get(i));
            addInt(bytes, node.values().get(i));
        }
    }

    int proveGrowth(int m, int n) {
        bad(m <= 0 || m >= n || n > versions.size());
        latest = seals(growth(0, n, m));
        return latest.size();
    }

    int proof(int i) {
        return i < 0 || i >= latest.size() ? -1 : latest.get(i);
    }

    boolean take(int word, int n) {
        if (n < 1 || n > 4 || held.size() + n > 400) {
            return false;
        }
        List<Integer> four = new ArrayList<>();
        addInt(four, word);
        held.addAll(four.subList(4 - n, 4));
        return true;
    }

    int carry(int i, int mask) {
        held = new ArrayList<>(latest);
        if (i >= 0 && i < held.size()) {
            held.set(i, held.get(i) ^ (mask & 255));
        }
        return held.size();
    }

    int verify(int digest, int n, int v, int key) {
        bad(n < 1 || n > 16 || v < 0 || v >= n);
        badKey(key);
        List<Integer> bytes = held;
        held = new ArrayList<>();
        try {
            Integer value = readProof(bytes, digest, n, v, key);
            seen = value == null ? seen : value;
            return value == null ? 1 : 2;
        } catch (Refused e) {
            return 0;
        }
    }

    int shown() {
        return seen;
    }

    boolean verifyGrowth(int one, int m, int other, int n) {
        bad(m <= 0 || m >= n || n >= 17);
        List<Integer> bytes = held;
        held = new ArrayList<>();
        try {
            List<Integer> seals = cutInts(bytes, growth(0, n, m).size());
            refuse(!bytes.isEmpty());
            int[] both = digests(seals, one, 0, n, m);
            return both[0] == one && both[1] == other;
        } catch (Refused e) {
            return false;
        }
    }

    private static void refuse(boolean so) {
        if (so) {
            throw new Refused();
        }
    }

    private static int cutByte(List<Integer> bytes) {
        refuse(bytes.isEmpty());
        return bytes.remove(0);
    }

    private static int cutInt(List<Integer> bytes) {
        return cutByte(bytes) << 24 | cutByte(bytes) << 16 | cutByte(bytes) << 8 | cutByte(bytes);
    }

    private static List<Integer> cutInts(List<Integer> bytes, int due) {
        refuse(cutByte(bytes) != due);
        List<Integer> ints = new ArrayList<>();
        for (int i = 0; i < due; i++) {
            ints.add(cutInt(bytes));
        }
        return ints;
    }

    private static Node cutNode(List<Integer> bytes, int level) {
        int count = cutByte(bytes);
        refuse(count < 1 || count > 48);
        List<Integer> keys = new ArrayList<>();
        List<Integer> values = new ArrayList<>();
        for (int i = 0; i < count; i++) {
            int key = cutByte(bytes);
            refuse(key > 47 || i > 0 && key <= keys.get(i - 1));
            keys.add(key);
            values.add(cutInt(bytes));
        }
        return new Node(level, keys, values, List.of());
    }

    /** The digest of n versions by a root of version v and the ints of its way. */
    static int digestBy(List<Integer> seals, int root, int n, int v) {
        int seal = leaf(v, root);
        int at = 0;
        for (int[] part : way(0, n, v)) {
            seal = part[0] < v ? join(seals.get(at), seal) : join(seal, seals.get(at));
            at++;
        }
        return seal;
    }

    /** The value that the bytes show, null for none. */
    private static Integer readProof(List<Integer> bytes, int digest, int n, int v, int key) {
        List<Integer> seals = cutInts(bytes, way(0, n, v).size());
        int levels = cutByte(bytes);
        refuse(levels > 6);
        int root = 0;
        Node over = null;
        for (int level = levels - 1; level >= 0; level--) {
            Node node = cutNode(bytes, level);
            if (over == null) {
                root = node.hash();
            } else {
                int chosen = over.choose(key);
                refuse(node.lastKey() != over.keys().get(chosen) || node.hash() != over.values().get(chosen));
            }
            over = node;
        }
        refuse(!bytes.isEmpty());
        refuse(digestBy(seals, root, n, v) != digest);
        int place = over == null ? -1 : over.keys().indexOf(key);
        return place < 0 ? null : over.values().get(place);
    }

    /** The digests of m and of n versions by a growth's ints, which are used up; one is the given digest of m. */
    static int[] digests(List<Integer> seals, int one, int p, int q, int m) {
        if (m == q) {
            int seal = p == 0 ? one : seals.remove(0);
            return new int[] {seal, seal};
        }
        int h = below(q);
        if (m <= h) {
            int[] both = digests(seals, one, p, h, m);
            return new int[] {both[0], join(both[1], seals.remove(0))};
        }
        int[] both = digests(seals, one, p + h, q - h, m - h);
        int first = seals.remove(0);
        return new int[] {join(first, both[0]), join(first, both[1])};
    }
}
