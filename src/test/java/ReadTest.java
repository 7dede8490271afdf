import java.util.TreeMap;

/** Promises 8 to 12: versions, get, range, root, digest; by their sentences. */
public final class ReadTest {
    private static final Check check = new Check();
    private static final Twins twins = new Twins(check);
    private static final int NONE = Books.NONE;
    private static final int LEAST = Books.LEAST;
    private static final int MOST = Books.MOST;

    private static void versions() {
        check.sentence("Promise 8", "How many versions there are.");
        SealedBook book = new SealedBook();
        check.same("at first", book.versions(), 1);
        book.put(1, 1);
        check.same("before the commit", book.versions(), 1);
        book.commit();
        check.same("after it", book.versions(), 2);
        book.fail(1);
        book.commit();
        check.same("after a failed one", book.versions(), 2);
        book.rollback();
        check.same("after rollback", book.versions(), 2);
        for (int v = 2; v < 16; v++) {
            book.commit();
            check.same("after commit " + v, book.versions(), v + 1);
        }
        check.full("commit", book::commit);
        check.same("at last", book.versions(), 16);
        twins.untouched("versions", SealedBook::versions);
    }

    private static SealedBook everyThird() {
        SealedBook book = new SealedBook();
        for (int key = 0; key < 48; key += 3) {
            book.put(key, key * key - 5);
        }
        book.commit();
        return book;
    }

    private static void get() {
        check.sentence("Promise 9", "The value of a key in version v, or in the transaction (v is NONE).");
        SealedBook book = everyThird();
        for (int key = 0; key < 48; key += 3) {
            check.same("key " + key, book.get(1, key), key * key - 5);
        }
        book.put(45, 1);
        book.put(1, 2);
        check.same("changed in the transaction", book.get(NONE, 45), 1);
        check.same("new in the transaction", book.get(NONE, 1), 2);
        check.same("in the version still", book.get(1, 45), 2020);
        check.sentence("Promise 9", "(There is always one to look into, also with 16 versions.)");
        check.noValue("with one version", () -> new SealedBook().get(NONE, 0));
        SealedBook full = everyThird();
        for (int v = 2; v < 16; v++) {
            full.commit();
        }
        check.same("a value with 16 versions", full.get(NONE, 45), 2020);
        check.noValue("no value with 16 versions", () -> full.get(NONE, 46));
        check.same("version 15", full.get(15, 45), 2020);
        SealedBook failed = everyThird();
        failed.put(46, 1);
        failed.fail(1);
        failed.commit();
        check.same("after a failed commit", failed.get(NONE, 45), 2020);
        check.sentence("Promise 9", "IllegalArgumentException when there is no such version or key");
        for (int v : new int[] {-2, 2, LEAST, MOST}) {
            check.noKey("version " + v, () -> book.get(v, 3));
            check.noKey("version " + v + ", no value either", () -> book.get(v, 4));
        }
        check.noKey("version 16", () -> full.get(16, 45));
        for (int key : Books.NO_KEYS) {
            check.noKey("key " + key, () -> book.get(1, key));
            check.noKey("key " + key + " in the transaction", () -> book.get(NONE, key));
            check.noKey("key " + key + " in the empty version", () -> book.get(0, key));
            check.noKey("key " + key + " with 16 versions", () -> full.get(NONE, key));
            check.noKey("key " + key + " and no version", () -> book.get(2, key));
        }
        twins.untouched("get(5, 48)", twin -> twin.get(5, 48));
        twins.untouched("get(0, 0)", twin -> twin.get(0, 0));
        twins.untouched("get(NONE, 9)", twin -> twin.get(NONE, 9));
    }

    private static void noValue() {
        check.sentence("Promise 9", "NoSuchElementException when it has none");
        SealedBook book = everyThird();
        for (int key = 0; key < 48; key++) {
            int k = key;
            check.noValue("key " + k + " in the empty version", () -> book.get(0, k));
            if (key % 3 != 0) {
                check.noValue("key " + k, () -> book.get(1, k));
                check.noValue("key " + k + " in the transaction", () -> book.get(NONE, k));
            }
        }
        book.delete(3);
        check.noValue("deleted in the transaction", () -> book.get(NONE, 3));
        check.same("not in the version", book.get(1, 3), 4);
        book.put(3, NONE);
        check.same("NONE is a value", book.get(NONE, 3), NONE);
    }

    private static void range() {
        check.sentence("Promise 10", "How many keys from low to high (any ints) have values in version v.");
        SealedBook book = Books.withKeys(0, 1, 10, 20, 46, 47);
        book.put(30, 0);
        book.delete(0);
        check.same("all", book.range(1, 0, 47), 6);
        check.same("any ints", book.range(1, LEAST, MOST), 6);
        check.same("up to any int", book.range(1, 20, MOST), 3);
        check.same("from any int", book.range(1, LEAST, 1), 2);
        check.same("from below the keys", book.range(1, -1, 0), 1);
        check.same("up to above the keys", book.range(1, 47, 48), 1);
        check.same("both ends count", book.range(1, 1, 46), 4);
        check.same("one key", book.range(1, 10, 10), 1);
        check.same("the first key", book.range(1, 0, 0), 1);
        check.same("the last key", book.range(1, 47, 47), 1);
        check.same("between keys", book.range(1, 11, 19), 0);
        check.same("the wrong way round", book.range(1, 20, 10), 0);
        check.same("the wrong way round by one", book.range(1, 20, 19), 0);
        check.same("the wrong way round by far", book.range(1, MOST, LEAST), 0);
        check.same("above all keys", book.range(1, 48, MOST), 0);
        check.same("below all keys", book.range(1, LEAST, -1), 0);
        check.same("the least int alone", book.range(1, LEAST, LEAST), 0);
        check.same("the greatest int alone", book.range(1, MOST, MOST), 0);
        check.same("the empty version", book.range(0, LEAST, MOST), 0);
        SealedBook all = new SealedBook();
        Books.putAll(all, 0);
        all.commit();
        check.same("all 48", all.range(1, LEAST, MOST), 48);
        check.same("46 of them", all.range(1, 1, 46), 46);
        check.sentence("Promise 10", "IllegalArgumentException when there is no such version.");
        for (int v : new int[] {NONE, -2, 2, LEAST, MOST}) {
            check.noKey("version " + v, () -> book.range(v, 0, 47));
            check.noKey("version " + v + " and no keys", () -> book.range(v, 5, 4));
        }
        check.noKey("version 16 of 16", () -> Books.ofVersions(16).range(16, 0, 47));
        check.same("version 15 of 16", Books.ofVersions(16).range(15, 0, 47), 15);
        twins.untouched("range", twin -> twin.range(0, 0, 47));
        twins.untouched("range without such a version", twin -> twin.range(16, 0, 47));
    }

    private static void root() {
        check.sentence("Promise 11", "The root of version v.");
        SealedBook book = new SealedBook();
        TreeMap<Integer, Integer> map = new TreeMap<>();
        for (int v = 1; v < 16; v++) {
            for (int key = v % 4; key < 3 * v + 3; key += 4) {
                book.put(key, v * 1000 + key);
                map.put(key, v * 1000 + key);
            }
            book.delete(v);
            map.remove(v);
            book.commit();
            check.same("root of " + v, book.root(v), Model.rootOf(map));
        }
        SealedBook known = Books.with(5, 50, 7, 70);
        check.same("of 5 and 7", known.root(1), -1352806798);
        check.same("of the empty version", known.root(0), 0);
        known.delete(5);
        known.delete(7);
        check.same("changes do not count", known.root(1), -1352806798);
        known.commit();
        check.same("emptied again", known.root(2), 0);
        check.sentence("Promise 11", "IllegalArgumentException when there is none.");
        for (int v : new int[] {NONE, -2, 3, LEAST, MOST}) {
            check.noKey("version " + v, () -> known.root(v));
        }
        check.noKey("version 16 of 16", () -> book.root(16));
        twins.untouched("root", twin -> twin.root(0));
        twins.untouched("root without such a version", twin -> twin.root(16));
    }

    private static void digest() {
        check.sentence("Promise 12", "The digest of n versions.");
        SealedBook book = Books.ofVersions(16);
        check.same("of none", book.digest(0), 0);
        check.same("of one", book.digest(1), -1024475667);
        for (int n = 1; n <= 16; n++) {
            check.same("of " + n, book.digest(n), Books.seal(book, 0, n));
        }
        SealedBook known = Books.with(5, 50, 7, 70);
        check.same("of 5 and 7", known.digest(2), 1319716453);
        known.put(5, 51);
        check.same("changes do not count", known.digest(2), 1319716453);
        check.sentence("Promise 12", "IllegalArgumentException when there are not so many, or n is below 0.");
        for (int n : new int[] {-1, 3, LEAST, MOST}) {
            check.noKey("of " + n, () -> known.digest(n));
        }
        check.noKey("of 2 in a new object", () -> new SealedBook().digest(2));
        check.noKey("of 17", () -> book.digest(17));
        twins.untouched("digest", twin -> twin.digest(1));
        twins.untouched("digest of too many", twin -> twin.digest(17));
    }

    public static void main(String[] args) {
        versions();
        get();
        noValue();
        range();
        root();
        digest();
        check.finish();
    }
}
