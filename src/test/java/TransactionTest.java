/** Promises 1 to 5: a new object, put, delete, commit, rollback. */
public final class TransactionTest {
    private static final Check check = new Check();
    private static final int NONE = SealedBook.NONE;
    private static final int[] NO_KEYS = {-1, 48, Integer.MIN_VALUE, Integer.MAX_VALUE};

    private static SealedBook full() {
        SealedBook book = new SealedBook();
        book.put(3, 30);
        for (int v = 1; v < 16; v++) {
            check.same("promise 4: commit " + v, book.commit(), v);
        }
        return book;
    }

    private static void newObject() {
        SealedBook book = new SealedBook();
        check.same("promise 1: versions", book.versions(), 1);
        check.same("promise 1: chunks", book.chunks(), 0);
        check.same("promise 1: root of version 0", book.root(0), 0);
        check.same("promise 1: no proof", book.proof(0), NONE);
        check.same("promise 1: shown", book.shown(), 0);
        check.same("promise 1: nothing to carry", book.carry(0, 1), 0);
        check.same("promise 1: no bytes", book.verify(book.digest(1), 1, 0, 0), 0);
        for (int key = 0; key < 48; key++) {
            int k = key;
            check.noValue("promise 1: version 0, key " + k, () -> book.get(0, k));
            check.noValue("promise 1: transaction, key " + k, () -> book.get(NONE, k));
        }
        check.same("promise 1: the first commit", book.commit(), 1);
        check.same("promise 1: no changes were waiting", book.range(1, 0, 47), 0);
    }

    private static void put() {
        SealedBook book = new SealedBook();
        book.put(0, Integer.MIN_VALUE);
        book.put(47, Integer.MAX_VALUE);
        book.put(20, 0);
        check.same("promise 2: key 0", book.get(NONE, 0), Integer.MIN_VALUE);
        check.same("promise 2: key 47", book.get(NONE, 47), Integer.MAX_VALUE);
        check.same("promise 2: value 0 is a value", book.get(NONE, 20), 0);
        book.put(47, -1);
        check.same("promise 2: the later value", book.get(NONE, 47), -1);
        check.noValue("promise 2: not in version 0", () -> book.get(0, 47));
        for (int key : NO_KEYS) {
            check.noKey("promise 2: put(" + key + ", 1)", () -> book.put(key, 1));
        }
        book.commit();
        check.same("promise 2: nothing else changed", book.range(1, 0, 47), 3);
        book.put(20, 21);
        check.same("promise 2: over a committed value", book.get(NONE, 20), 21);
        check.same("promise 2: the version stays", book.get(1, 20), 0);
        SealedBook full = full();
        check.full("promise 2: put with 16 versions", () -> full.put(3, 1));
        check.noKey("promise 2: no such key with 16 versions", () -> full.put(48, 1));
        check.same("promise 2: unchanged with 16 versions", full.get(NONE, 3), 30);
    }

    private static void delete() {
        SealedBook book = new SealedBook();
        check.no("promise 3: had none", book.delete(5));
        book.put(5, 0);
        check.yes("promise 3: had one of the transaction", book.delete(5));
        check.no("promise 3: had one no more", book.delete(5));
        check.noValue("promise 3: gone", () -> book.get(NONE, 5));
        book.put(0, 7);
        book.put(47, 8);
        book.commit();
        check.yes("promise 3: had one of the version", book.delete(47));
        check.noValue("promise 3: gone in the transaction", () -> book.get(NONE, 47));
        check.same("promise 3: the version stays", book.get(1, 47), 8);
        check.yes("promise 3: key 0", book.delete(0));
        for (int key : NO_KEYS) {
            check.noKey("promise 3: delete(" + key + ")", () -> book.delete(key));
        }
        check.same("promise 3: commit", book.commit(), 2);
        check.same("promise 3: nothing left", book.range(2, 0, 47), 0);
        SealedBook full = full();
        check.full("promise 3: delete with 16 versions", () -> full.delete(3));
        check.full("promise 3: delete of a key without value with 16 versions", () -> full.delete(4));
        check.noKey("promise 3: no such key with 16 versions", () -> full.delete(-1));
        check.same("promise 3: unchanged with 16 versions", full.get(NONE, 3), 30);
    }

    private static void commit() {
        SealedBook book = new SealedBook();
        check.same("promise 4: without changes", book.commit(), 1);
        book.put(9, 90);
        check.same("promise 4: with a change", book.commit(), 2);
        check.same("promise 4: the transaction goes on from there", book.get(NONE, 9), 90);
        book.put(10, 100);
        check.same("promise 4: the next", book.commit(), 3);
        check.same("promise 4: what did not change is there", book.get(3, 9), 90);
        check.same("promise 4: what changed is there", book.get(3, 10), 100);
        check.noValue("promise 4: and not in the one before", () -> book.get(2, 10));
        book.put(9, 91);
        book.fail(1);
        check.same("promise 4: a write failed", book.commit(), NONE);
        check.same("promise 4: no version", book.versions(), 4);
        check.same("promise 4: the transaction is gone", book.get(NONE, 9), 90);
        check.same("promise 4: the number is free still", book.commit(), 4);
        check.same("promise 4: without the change", book.get(4, 9), 90);
        SealedBook full = full();
        int digest = full.digest(16);
        check.full("promise 4: commit with 16 versions", full::commit);
        check.same("promise 4: still 16 versions", full.versions(), 16);
        check.same("promise 4: the same digest", full.digest(16), digest);
    }

    private static void rollback() {
        SealedBook book = new SealedBook();
        book.put(1, 1);
        book.rollback();
        check.noValue("promise 5: back to version 0", () -> book.get(NONE, 1));
        for (int key = 0; key < 48; key++) {
            book.put(key, key * 3);
        }
        book.commit();
        for (int key = 0; key < 48; key += 2) {
            book.delete(key);
            book.put(key + 1, -1);
        }
        book.rollback();
        for (int key = 0; key < 48; key++) {
            check.same("promise 5: key " + key, book.get(NONE, key), key * 3);
        }
        check.same("promise 5: no version came", book.versions(), 2);
        book.commit();
        check.same("promise 5: the root is the same", book.root(2), book.root(1));
        SealedBook full = full();
        full.rollback();
        check.same("promise 5: with 16 versions", full.get(NONE, 3), 30);
    }

    public static void main(String[] args) {
        newObject();
        put();
        delete();
        commit();
        rollback();
        check.finish();
    }
}
