import java.util.List;
import java.util.Random;

/** 'What it is', and 'Terms' up to THE TREE: a test for each sentence that names a boundary case. */
public final class TermsTreeTest {
    private static final Check check = new Check();
    private static final int NONE = Books.NONE;
    private static final int LEAST = Books.LEAST;
    private static final int MOST = Books.MOST;

    /** By the document's formula, worked out apart from this project's Java. */
    private static final List<Integer> ENDS_AT_0 = List.of(0, 4, 8, 12, 13, 16, 19, 26, 28, 31, 41, 42);

    /** Whoever holds the digest has a verifier without a book. */
    private static void oneNumber() {
        check.sentence("What it is", "A book of values by keys that can be checked by whoever holds one number");
        int digest = Books.ofVersions(6).digest(6);
        for (int v = 0; v < 6; v++) {
            for (int key = 0; key < 48; key++) {
                SealedBook book = Books.ofVersions(6);
                book.prove(6, v, key);
                SealedBook verifier = Books.holding(Books.proofOf(book));
                boolean there = key % 3 == 0 && key > 0 && key <= 3 * v;
                check.same("key " + key + " in " + v, verifier.verify(digest, 6, v, key), there ? 2 : 1);
                check.same("its value", verifier.shown(), there ? key / 3 * 1001 : 0);
            }
        }
    }

    private static void transactions() {
        check.sentence("What it is", "changes come in transactions");
        SealedBook book = Books.with(1, 10, 2, 20);
        int root = book.root(1);
        int digest = book.digest(2);
        book.put(1, 11);
        book.put(3, 30);
        book.delete(2);
        check.same("the version before the commit", book.range(1, 0, 47), 2);
        check.same("its value", book.get(1, 1), 10);
        check.same("its root", book.root(1), root);
        check.same("the digest", book.digest(2), digest);
        check.same("commit", book.commit(), 2);
        check.same("all changes came at once", book.range(2, 0, 47), 2);
        check.same("the changed one", book.get(2, 1), 11);
        check.same("the new one", book.get(2, 3), 30);
        check.noValue("the deleted one", () -> book.get(2, 2));
    }

    /** One value in one version is another than that of Books.ofVersions(6). */
    private static SealedBook changedIn(int changed) {
        SealedBook book = new SealedBook();
        for (int v = 1; v < 6; v++) {
            book.put(3 * v, v * 1001 + (v == changed ? 1 : 0));
            if (v == changed + 1) {
                book.put(3 * changed, changed * 1001);
            }
            book.commit();
        }
        return book;
    }

    private static void treesOfHashes() {
        check.sentence("What it is", "a tree of hashes stands over each version and another one over all of them");
        SealedBook same = changedIn(9);
        SealedBook book = Books.ofVersions(6);
        check.same("the same values", same.digest(6), book.digest(6));
        for (int changed = 1; changed < 6; changed++) {
            SealedBook other = changedIn(changed);
            for (int v = 0; v < 6; v++) {
                check.same("the same root of " + v + ", changed in " + changed,
                        other.root(v) == book.root(v) ? 1 : 0, v == changed ? 0 : 1);
                check.same("the same digest of " + (v + 1) + ", changed in " + changed,
                        other.digest(v + 1) == book.digest(v + 1) ? 1 : 0, v >= changed ? 0 : 1);
            }
        }
    }

    private static void everyVersionStays() {
        check.sentence("What it is", "every version stays");
        SealedBook book = new SealedBook();
        int[] roots = new int[16];
        int[] digests = new int[17];
        for (int v = 1; v < 16; v++) {
            book.put(5, 500 + v);
            book.put(30 + v, v);
            book.delete(29 + v);
            book.commit();
            roots[v] = book.root(v);
            digests[v + 1] = book.digest(v + 1);
        }
        for (int v = 1; v < 16; v++) {
            int before = 29 + v;
            int at = v;
            check.same("value in " + v, book.get(v, 5), 500 + v);
            check.same("other value in " + v, book.get(v, 30 + v), v);
            check.noValue("deleted in " + v, () -> book.get(at, before));
            check.same("root of " + v, book.root(v), roots[v]);
            check.same("digest of " + (v + 1), book.digest(v + 1), digests[v + 1]);
        }
        check.noValue("version 0", () -> book.get(0, 5));
    }

    private static void versionsShare() {
        check.sentence("What it is", "shares what did not change with the others");
        SealedBook book = new SealedBook();
        Books.putAll(book, 0);
        book.commit();
        check.same("13, 3 and 1", book.chunks(), 17);
        for (int i = 1; i <= 3; i++) {
            book.put(35, -i);
            book.commit();
            check.same("one chunk of each level is new", book.chunks(), 17 + 3 * i);
        }
    }

    /** The same bytes for a new object and for one with a book of its own. */
    private static void anyBytes() {
        check.sentence("What it is", "a verifier that knows nothing but a digest takes or refuses any bytes");
        Random random = new Random(1);
        for (int run = 0; run < 3000; run++) {
            SealedBook empty = new SealedBook();
            SealedBook busy = Books.ofVersions(4);
            busy.prove(4, 3, 9);
            int length = random.nextInt(101);
            int most = random.nextBoolean() ? 8 : 256;
            for (int i = 0; i < length; i++) {
                int word = most == 8 ? random.nextInt(8) : random.nextInt();
                int count = most == 8 ? 1 : 4;
                check.same("take", empty.take(word, count) ? 1 : 0, busy.take(word, count) ? 1 : 0);
            }
            int n = 1 + random.nextInt(15);
            int v = random.nextInt(n);
            int key = random.nextInt(48);
            if (random.nextBoolean()) {
                check.same("verify", empty.verify(run, n, v, key), busy.verify(run, n, v, key));
            } else {
                check.same("verifyGrowth", empty.verifyGrowth(1, v + 1, run, n + 1) ? 1 : 0,
                        busy.verifyGrowth(1, v + 1, run, n + 1) ? 1 : 0);
            }
        }
    }

    /** Each run below asks its last question as call 512. */
    private static void fiveHundredTwelveCalls() {
        check.sentence("What it is", "An object is used for at most 512 calls");
        SealedBook puts = new SealedBook();
        for (int i = 0; i < 510; i++) {
            puts.put(i % 48, i);
        }
        puts.commit();
        check.same("get after 510 puts", puts.get(1, 29), 509);
        SealedBook failing = new SealedBook();
        failing.put(9, 9);
        for (int i = 0; i < 255; i++) {
            failing.fail(1);
            failing.commit();
        }
        check.same("commit after 255 failed ones", failing.commit(), 1);
        SealedBook taking = new SealedBook();
        int digest = taking.digest(1);
        for (int i = 0; i < 509; i++) {
            taking.take(0, i < 507 ? 5 : 1);
        }
        taking.shown();
        check.same("verify after 507 refused takes", taking.verify(digest, 1, 0, 0), 1);
        SealedBook proving = new SealedBook();
        proving.put(47, 1);
        proving.commit();
        int two = proving.digest(2);
        proving.versions();
        proving.chunks();
        for (int i = 0; i < 168; i++) {
            proving.prove(2, 1, 47);
            proving.carry(-1, 0);
            check.same("verify in round " + i, proving.verify(two, 2, 1, 47), 2);
        }
        proving.root(0);
        proving.root(1);
        check.same("shown after 168 proofs", proving.shown(), 1);
    }

    /** Commits that lack their record only, so that the store grows beyond what 15 versions could write. */
    private static void manyChunksIn512Calls() {
        check.sentence("What it is", "An object is used for at most 512 calls");
        SealedBook failing = new SealedBook();
        for (int round = 1; round <= 127; round++) {
            failing.put(0, round);
            failing.put(42, round);
            failing.fail(6);
            check.same("the record of round " + round, failing.commit(), NONE);
        }
        failing.put(0, 1000);
        failing.put(42, 1000);
        failing.commit();
        check.same("five chunks in each of 128 rounds", failing.chunks(), 128 * 5);
    }

    private static void mix() {
        check.sentence("Terms", "MIX (h, x) of ints is g xor (g >>> 15), with g = (h xor x) * 73244475 (wrapping)");
        int[][] values = {{0, -1846345763}, {1, -1773119529}, {-1, 1773033430}, {LEAST, 301203421}, {MOST, -374384682}};
        for (int[] each : values) {
            check.same("root of 0 with value " + each[0], Books.with(0, each[0]).root(1), each[1]);
        }
        check.same("leaf of version 0", new SealedBook().digest(1), -1024475667);
    }

    private static void keys() {
        check.sentence("Terms", "KEYS are 0 .. 47");
        SealedBook book = new SealedBook();
        int digest = book.digest(1);
        for (int key : new int[] {0, 47}) {
            book.put(key, key + 1);
            check.same("get of " + key, book.get(NONE, key), key + 1);
            check.yes("delete of " + key, book.delete(key));
            check.same("prove for " + key, book.prove(1, 0, key), 2);
            book.carry(-1, 0);
            check.same("verify for " + key, book.verify(digest, 1, 0, key), 1);
        }
        for (int key : Books.NO_KEYS) {
            check.noKey("put of " + key, () -> book.put(key, 1));
            check.noKey("delete of " + key, () -> book.delete(key));
            check.noKey("get of " + key, () -> book.get(0, key));
            check.noKey("prove for " + key, () -> book.prove(1, 0, key));
            check.noKey("verify for " + key, () -> book.verify(digest, 1, 0, key));
        }
    }

    private static void values() {
        check.sentence("Terms", "VALUES ints");
        for (int value : new int[] {LEAST, LEAST + 1, -256, -2, NONE, 0, 1, 255, 256, MOST}) {
            SealedBook book = new SealedBook();
            book.put(20, value);
            check.same("in the transaction", book.get(NONE, 20), value);
            book.commit();
            check.same("in the version", book.get(1, 20), value);
            check.same("counted", book.range(1, 20, 20), 1);
            int digest = book.digest(2);
            book.prove(2, 1, 20);
            book.carry(-1, 0);
            check.same("proved", book.verify(digest, 2, 1, 20), 2);
            check.same("shown", book.shown(), value);
            check.yes("had one", book.delete(20));
        }
    }

    private static void versions() {
        check.sentence("Terms", "A VERSION is a map from keys to values");
        SealedBook map = Books.with(9, 1, 9, 2, 8, 2);
        check.same("one value for a key", map.get(1, 9), 2);
        check.same("one value for two keys", map.get(1, 8), 2);
        check.same("two keys", map.range(1, 0, 47), 2);
        check.sentence("Terms", "version 0 is empty");
        SealedBook book = new SealedBook();
        check.same("its keys", book.range(0, 0, 47), 0);
        book.put(0, 1);
        book.commit();
        check.same("its keys after a commit", book.range(0, 0, 47), 0);
        check.sentence("Terms", "each commit makes the next one, the last one is 15");
        for (int v = 2; v <= 15; v++) {
            check.same("commit", book.commit(), v);
        }
        check.full("after version 15", book::commit);
        check.same("version 15", book.get(15, 0), 1);
        check.noKey("version 16", () -> book.get(16, 0));
    }

    private static void items() {
        check.sentence("Terms", "LEVEL 0 has an ITEM (key, value) for each key, by rising keys");
        check.same("rising", Books.with(5, 50, 7, 70).root(1), -1352806798);
        check.same("falling", Books.with(7, 70, 5, 50).root(1), -1352806798);
        check.same("put twice", Books.with(7, 1, 5, 50, 7, 70).root(1), -1352806798);
        SealedBook book = Books.with(3, 0, 5, 50, 7, 70, 9, 0);
        book.delete(9);
        book.delete(3);
        book.commit();
        check.same("deleted ones have none", book.root(2), -1352806798);
        check.same("a value of 0 has one", Books.with(1, 0).root(1), -468788739);
    }

    /** With 47 behind it, a key that ends no chunk leaves one, and one that ends a chunk makes two and those above. */
    private static void cuts() {
        check.sentence("Terms", "a chunk ends behind an item with key k if the lowest two bits of"
                + " MIX (MIX (MIX (9, l), k), 5) are 0");
        for (int key = 0; key < 47; key++) {
            int due = !ENDS_AT_0.contains(key) ? 1 : key == 0 || key == 42 ? 5 : 3;
            check.same("chunks of " + key + " and 47", Books.withKeys(key, 47).chunks(), due);
        }
        check.same("of 4, 8 and 47", Books.withKeys(4, 8, 47).chunks(), 4);
        check.same("of 1 to 3 and 47", Books.withKeys(1, 2, 3, 47).chunks(), 1);
        check.same("of 1 to 4 and 47", Books.withKeys(1, 2, 3, 4, 47).chunks(), 3);
    }

    private static void lastItem() {
        check.sentence("Terms", "and behind the last item");
        for (int key = 0; key < 48; key++) {
            check.same("one chunk, of " + key, Books.withKeys(key).chunks(), 1);
        }
        check.same("the last one's key ends a chunk", Books.withKeys(1, 2, 4).chunks(), 1);
        check.same("the last one's key ends none", Books.withKeys(1, 2, 3).chunks(), 1);
        check.same("two chunks, the last one's key ends one", Books.withKeys(4, 8).chunks(), 3);
        check.same("two chunks, the last one's key ends none", Books.withKeys(4, 7).chunks(), 3);
    }

    private static void hashes() {
        check.sentence("Terms", "The HASH of a chunk of level l: MIX (6, l) at first, and for each of its items"
                + " MIX (MIX (h, key), value)");
        check.same("one item", Books.with(47, -1).root(1), -1387346815);
        check.same("four items", Books.with(1, 10, 2, 20, 3, 30, 4, 40).root(1), -1528757570);
        check.same("level 1", Books.with(4, 4, 47, 47).root(1), 1976466882);
        check.same("level 2", Books.with(0, 100, 47, 147).root(1), 1249288741);
    }

    private static int levelsOf(int... keys) {
        SealedBook book = Books.withKeys(keys);
        book.prove(2, 1, 0);
        return book.proof(5);
    }

    private static void nextLevel() {
        check.sentence("Terms", "If a level has more than one chunk, the next one has an item for each of its chunks:"
                + " the chunk's last key, and as its value the chunk's hash.");
        SealedBook book = Books.with(4, 4, 47, 47);
        book.prove(2, 1, 47);
        int[] due = {1, 194, 239, 189, 237, 2, 2, 4, 141, 175, 189, 102, 47, 239, 219, 25, 155, 1, 47, 0, 0, 0, 47};
        for (int i = 0; i < due.length; i++) {
            check.same("byte " + i, book.proof(i), due[i]);
        }
        check.same("one chunk of one item", levelsOf(0), 1);
        check.same("one chunk of ten", levelsOf(32, 33, 34, 35, 36, 37, 38, 39, 40, 41), 1);
        check.same("two chunks", levelsOf(4, 5), 2);
        check.same("eleven chunks, one above", levelsOf(4, 8, 12, 13, 16, 19, 26, 28, 31, 41, 42), 2);
        check.same("two chunks, and two above", levelsOf(0, 1), 3);
    }

    private static void root() {
        check.sentence("Terms", "The highest level has one chunk; its hash is the ROOT");
        SealedBook book = new SealedBook();
        for (int key = 0; key < 48; key++) {
            book.put(key, key * key);
        }
        book.commit();
        check.same("13, 3 and 1 chunk", book.root(1), 215964866);
        check.same("the level below has more", Books.with(4, 4, 47, 47).root(1), 1976466882);
        check.same("the only level", Books.with(47, 0).root(1), 1314020866);
    }

    private static void noItems() {
        check.sentence("Terms", "without items the root is 0, and there is no chunk");
        SealedBook book = new SealedBook();
        check.same("root of version 0", book.root(0), 0);
        book.commit();
        check.same("root without changes", book.root(1), 0);
        check.same("chunks", book.chunks(), 0);
        book.put(7, 7);
        book.delete(7);
        book.commit();
        check.same("root after put and delete", book.root(2), 0);
        check.same("chunks after put and delete", book.chunks(), 0);
        book.put(7, 7);
        book.commit();
        book.delete(7);
        book.commit();
        check.same("root when emptied", book.root(4), 0);
        check.same("no other chunk", book.chunks(), 1);
        check.same("bytes of a proof there", book.prove(1, 0, 7), 2);
    }

    /** With a value that makes the hash 0: what has items has a chunk and levels all the same. */
    private static void itemsWithRoot0() {
        check.sentence("Terms", "without items the root is 0, and there is no chunk");
        int value = Model.mix(Model.mix(6, 0), 0);
        SealedBook book = Books.with(0, value);
        check.same("root of an item", book.root(1), 0);
        check.same("its chunk", book.chunks(), 1);
        check.same("its value", book.get(1, 0), value);
        check.same("bytes of its proof", book.prove(2, 1, 0), 12);
        check.same("levels", book.proof(5), 1);
        book.carry(-1, 0);
        check.same("taken", book.verify(book.digest(2), 2, 1, 0), 2);
        check.same("shown", book.shown(), value);
        book.rollback();
        check.same("in the transaction", book.get(NONE, 0), value);
        book.put(47, 1);
        book.commit();
        check.same("below other chunks", book.get(2, 0), value);
        check.same("five chunks, one of them known", book.chunks(), 5);
    }

    public static void main(String[] args) {
        oneNumber();
        transactions();
        treesOfHashes();
        everyVersionStays();
        versionsShare();
        anyBytes();
        fiveHundredTwelveCalls();
        manyChunksIn512Calls();
        mix();
        keys();
        values();
        versions();
        items();
        cuts();
        lastItem();
        hashes();
        nextLevel();
        root();
        noItems();
        itemsWithRoot0();
        check.finish();
    }
}
