import java.util.TreeMap;

/** Promises 8 to 12: versions, get, range, root, digest. */
public final class ReadTest {
    private static final Check check = new Check();
    private static final int NONE = SealedBook.NONE;
    private static final int LEAST = Integer.MIN_VALUE;
    private static final int MOST = Integer.MAX_VALUE;

    private static void versions() {
        SealedBook book = new SealedBook();
        check.same("promise 8: at first", book.versions(), 1);
        book.put(1, 1);
        check.same("promise 8: before the commit", book.versions(), 1);
        book.commit();
        check.same("promise 8: after it", book.versions(), 2);
        book.fail(1);
        book.commit();
        check.same("promise 8: after a failed one", book.versions(), 2);
        for (int v = 2; v < 16; v++) {
            book.commit();
        }
        check.same("promise 8: at last", book.versions(), 16);
    }

    private static void get() {
        SealedBook book = new SealedBook();
        for (int key = 0; key < 48; key += 3) {
            book.put(key, key * key - 5);
        }
        book.commit();
        for (int key = 0; key < 48; key++) {
            int k = key;
            if (key % 3 == 0) {
                check.same("promise 9: key " + k, book.get(1, k), k * k - 5);
            } else {
                check.noValue("promise 9: key " + k, () -> book.get(1, k));
            }
        }
        for (int v : new int[] {-2, 2, LEAST, MOST}) {
            check.noKey("promise 9: no version " + v, () -> book.get(v, 3));
        }
        for (int key : new int[] {-1, 48, LEAST, MOST}) {
            check.noKey("promise 9: no key " + key, () -> book.get(1, key));
            check.noKey("promise 9: no key in the transaction " + key, () -> book.get(NONE, key));
            check.noKey("promise 9: no key in the empty version " + key, () -> book.get(0, key));
        }
        for (int v = 2; v < 16; v++) {
            book.commit();
        }
        check.same("promise 9: the transaction with 16 versions", book.get(NONE, 45), 2020);
        check.same("promise 9: version 15", book.get(15, 45), 2020);
        check.noKey("promise 9: no version 16", () -> book.get(16, 45));
    }

    private static void range() {
        SealedBook book = new SealedBook();
        for (int key : new int[] {0, 1, 10, 20, 46, 47}) {
            book.put(key, 0);
        }
        book.commit();
        book.put(30, 0);
        check.same("promise 10: all", book.range(1, 0, 47), 6);
        check.same("promise 10: any ints", book.range(1, LEAST, MOST), 6);
        check.same("promise 10: up to any int", book.range(1, 20, MOST), 3);
        check.same("promise 10: from any int", book.range(1, LEAST, 1), 2);
        check.same("promise 10: both ends count", book.range(1, 1, 46), 4);
        check.same("promise 10: one key", book.range(1, 10, 10), 1);
        check.same("promise 10: between keys", book.range(1, 11, 19), 0);
        check.same("promise 10: the wrong way round", book.range(1, 20, 10), 0);
        check.same("promise 10: the wrong way round by far", book.range(1, MOST, LEAST), 0);
        check.same("promise 10: above all keys", book.range(1, 48, MOST), 0);
        check.same("promise 10: below all keys", book.range(1, LEAST, -1), 0);
        check.same("promise 10: the empty version", book.range(0, 0, 47), 0);
        for (int v : new int[] {NONE, -2, 2, LEAST, MOST}) {
            check.noKey("promise 10: no version " + v, () -> book.range(v, 0, 47));
        }
        check.noKey("promise 10: no version and no keys", () -> book.range(2, 5, 4));
    }

    private static void root() {
        SealedBook book = new SealedBook();
        TreeMap<Integer, Integer> map = new TreeMap<>();
        for (int v = 1; v < 16; v++) {
            for (int key = v % 4; key < 3 * v + 3; key += 4) {
                book.put(key, v * 1000 + key);
                map.put(key, v * 1000 + key);
            }
            book.delete(v);
            map.remove(v);
            book.commit();
            check.same("promise 11: root of " + v, book.root(v), Model.rootOf(map));
        }
        SealedBook known = new SealedBook();
        known.put(5, 50);
        known.put(7, 70);
        known.commit();
        check.same("promise 11: of 5 and 7", known.root(1), -1352806798);
        known.delete(5);
        known.delete(7);
        known.commit();
        check.same("promise 11: emptied again", known.root(2), 0);
        for (int v : new int[] {NONE, 3, LEAST, MOST}) {
            check.noKey("promise 11: no version " + v, () -> known.root(v));
        }
    }

    private static void digest() {
        SealedBook book = new SealedBook();
        int[] leaves = new int[16];
        for (int v = 0; v < 16; v++) {
            leaves[v] = Model.leaf(v, book.root(v));
            if (v < 15) {
                book.put(v * 3, v);
                book.commit();
            }
        }
        check.same("promise 12: of none", book.digest(0), 0);
        check.same("promise 12: of one", book.digest(1), -1024475667);
        for (int n = 1; n <= 16; n++) {
            check.same("promise 12: of " + n, book.digest(n), seal(leaves, 0, n));
        }
        SealedBook known = new SealedBook();
        known.put(5, 50);
        known.put(7, 70);
        known.commit();
        check.same("promise 12: of 5 and 7", known.digest(2), 1319716453);
        for (int n : new int[] {-1, 3, LEAST, MOST}) {
            check.noKey("promise 12: not so many, " + n, () -> known.digest(n));
        }
        check.noKey("promise 12: of 17", () -> book.digest(17));
    }

    private static int seal(int[] leaves, int from, int to) {
        if (to - from == 1) {
            return leaves[from];
        }
        int m = 8;
        while (m >= to - from) {
            m /= 2;
        }
        return Model.join(seal(leaves, from, from + m), seal(leaves, from + m, to));
    }

    public static void main(String[] args) {
        versions();
        get();
        range();
        root();
        digest();
        check.finish();
    }
}
