import java.util.ArrayList;
import java.util.List;

/** Books, bytes and forged proofs that several tests use. */
final class Books {
    static final int NONE = SealedBook.NONE;
    static final int LEAST = Integer.MIN_VALUE;
    static final int MOST = Integer.MAX_VALUE;
    static final int[] NO_KEYS = {-1, 48, LEAST, MOST};

    private Books() {
    }

    static void putAll(SealedBook book, int add) {
        for (int key = 0; key < 48; key++) {
            book.put(key, key + add);
        }
    }

    static void clear(SealedBook book) {
        for (int key = 0; key < 48; key++) {
            book.delete(key);
        }
    }

    /** Version 1 has these keys and values. */
    static SealedBook with(int... keysAndValues) {
        SealedBook book = new SealedBook();
        for (int i = 0; i < keysAndValues.length; i += 2) {
            book.put(keysAndValues[i], keysAndValues[i + 1]);
        }
        book.commit();
        return book;
    }

    /** Version 1 has these keys, with the value 0. */
    static SealedBook withKeys(int... keys) {
        int[] items = new int[2 * keys.length];
        for (int i = 0; i < keys.length; i++) {
            items[2 * i] = keys[i];
        }
        return with(items);
    }

    /** So many versions; version v above 0 has one more key than the one before: 3 * v, with the value v * 1001. */
    static SealedBook ofVersions(int count) {
        SealedBook book = new SealedBook();
        for (int v = 1; v < count; v++) {
            book.put(3 * v, v * 1001);
            book.commit();
        }
        return book;
    }

    /** The seal of the versions from one up to another, which does not count, by the roots that the book tells. */
    static int seal(SealedBook book, int from, int to) {
        if (to - from == 1) {
            return Model.leaf(from, book.root(from));
        }
        int m = 8;
        while (m >= to - from) {
            m /= 2;
        }
        return Model.join(seal(book, from, from + m), seal(book, from + m, to));
    }

    static List<Integer> proofOf(SealedBook book) {
        List<Integer> bytes = new ArrayList<>();
        int next = book.proof(0);
        while (next != NONE && bytes.size() < 400) {
            bytes.add(next);
            next = book.proof(bytes.size());
        }
        return bytes;
    }

    /** A new object that has taken these bytes, in words of changing length. */
    static SealedBook holding(List<Integer> bytes) {
        SealedBook verifier = new SealedBook();
        int size = 1;
        int at = 0;
        while (at < bytes.size()) {
            size = Math.min(size % 4 + 1, bytes.size() - at);
            int word = 0x55555555;
            for (int i = 0; i < size; i++) {
                word = word << 8 | bytes.get(at + i);
            }
            if (!verifier.take(word, size)) {
                throw new AssertionError("bytes that there is room for were not taken");
            }
            at += size;
        }
        return verifier;
    }

    static int verify(List<Integer> bytes, int digest, int n, int v, int key) {
        return holding(bytes).verify(digest, n, v, key);
    }

    static boolean grows(List<Integer> bytes, int one, int m, int other, int n) {
        return holding(bytes).verifyGrowth(one, m, other, n);
    }

    static Model.Node node(int level, int... keysAndValues) {
        List<Integer> keys = new ArrayList<>();
        List<Integer> values = new ArrayList<>();
        for (int i = 0; i < keysAndValues.length; i += 2) {
            keys.add(keysAndValues[i]);
            values.add(keysAndValues[i + 1]);
        }
        return new Model.Node(level, keys, values, List.of());
    }

    /** A chunk of the keys from 0 on. */
    static Model.Node row(int level, int count) {
        int[] items = new int[2 * count];
        for (int i = 0; i < count; i++) {
            items[2 * i] = i;
            items[2 * i + 1] = 1000 + i;
        }
        return node(level, items);
    }

    /** A proof (1, 0, any key) of these chunks, the highest first. */
    static List<Integer> forged(Model.Node... nodes) {
        List<Integer> bytes = new ArrayList<>(List.of(0, nodes.length));
        for (Model.Node node : nodes) {
            Model.addNode(bytes, node);
        }
        return bytes;
    }

    /** The digest of one version whose tree has this top. */
    static int digestOver(Model.Node top) {
        return Model.leaf(0, top.hash());
    }

    /** Bytes of a number of ints and these ints. */
    static List<Integer> ints(int... seals) {
        List<Integer> bytes = new ArrayList<>(List.of(seals.length));
        for (int seal : seals) {
            Model.addInt(bytes, seal);
        }
        return bytes;
    }

    static List<Integer> bytes(int... values) {
        List<Integer> bytes = new ArrayList<>();
        for (int value : values) {
            bytes.add(value);
        }
        return bytes;
    }
}
