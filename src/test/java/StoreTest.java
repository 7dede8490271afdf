/** Promises 6 and 7: failing writes, and which chunks the store has. */
public final class StoreTest {
    private static final Check check = new Check();
    private static final int NONE = SealedBook.NONE;

    /** Six chunks: 0 / 1 4 / 5 at level 0, 0 / 4 5 at level 1, 0 5 at level 2. */
    private static void putSix(SealedBook book) {
        for (int key : new int[] {0, 1, 4, 5}) {
            book.put(key, key + 100);
        }
    }

    private static void putAll(SealedBook book, int add) {
        for (int key = 0; key < 48; key++) {
            book.put(key, key + add);
        }
    }

    private static void clear(SealedBook book) {
        for (int key = 0; key < 48; key++) {
            book.delete(key);
        }
    }

    private static void numbers() {
        SealedBook book = new SealedBook();
        for (int n : new int[] {0, -1, 41, Integer.MIN_VALUE, Integer.MAX_VALUE}) {
            check.no("promise 6: fail(" + n + ")", book.fail(n));
        }
        check.same("promise 6: none is to fail", book.commit(), 1);
        check.yes("promise 6: fail(1)", book.fail(1));
        check.no("promise 6: fail(0) changes nothing", book.fail(0));
        check.no("promise 6: fail(41) changes nothing", book.fail(41));
        check.same("promise 6: the write fails still", book.commit(), NONE);
        check.same("promise 6: and no other", book.commit(), 2);
        check.yes("promise 6: fail(1)", book.fail(1));
        check.yes("promise 6: fail(3) instead", book.fail(3));
        check.same("promise 6: first write", book.commit(), 3);
        check.same("promise 6: second write", book.commit(), 4);
        check.same("promise 6: third write", book.commit(), NONE);
        check.yes("promise 6: fail(2)", book.fail(2));
        check.same("promise 6: first write", book.commit(), 5);
        check.yes("promise 6: fail(2) counts anew", book.fail(2));
        check.same("promise 6: first write", book.commit(), 6);
        check.same("promise 6: second write", book.commit(), NONE);
    }

    private static void overCommits() {
        SealedBook book = new SealedBook();
        check.yes("promise 6: fail(40)", book.fail(40));
        putAll(book, 0);
        check.same("promise 6: writes 1 to 18", book.commit(), 1);
        putAll(book, 1);
        check.same("promise 6: writes 19 to 36", book.commit(), 2);
        check.same("promise 6: write 37", book.commit(), 3);
        check.same("promise 6: write 38", book.commit(), 4);
        check.same("promise 6: write 39", book.commit(), 5);
        check.same("promise 6: write 40", book.commit(), NONE);
        check.same("promise 6: write 41", book.commit(), 6);
    }

    private static void eachWrite() {
        for (int n = 1; n <= 7; n++) {
            SealedBook book = new SealedBook();
            putSix(book);
            book.fail(n);
            check.same("promise 6: write " + n + " fails", book.commit(), NONE);
            check.same("promise 7: those before write " + n + " stay", book.chunks(), n - 1);
            check.same("promise 6: no version after write " + n, book.versions(), 1);
            check.noValue("promise 6: the transaction is gone after write " + n, () -> book.get(NONE, 1));
            putSix(book);
            book.fail(8 - n);
            check.same("promise 7: not written again after write " + n, book.commit(), NONE);
            putSix(book);
            book.fail(2);
            check.same("promise 7: only the record is missing", book.commit(), 1);
            check.same("promise 7: all six", book.chunks(), 6);
            check.same("promise 6: the record was one write", book.commit(), NONE);
        }
        SealedBook book = new SealedBook();
        putSix(book);
        book.fail(8);
        check.same("promise 6: there are seven writes", book.commit(), 1);
        check.same("promise 6: the eighth is the next commit's", book.commit(), NONE);
    }

    /** After a failure: commits of trees of one chunk tell which chunks were written. */
    private static void order() {
        for (int n = 1; n <= 4; n++) {
            SealedBook book = new SealedBook();
            putSix(book);
            book.fail(n);
            book.commit();
            int[][] bottom = {{0}, {1, 4}, {5}};
            int count = n - 1;
            for (int i = 0; i < 3; i++) {
                clear(book);
                for (int key : bottom[i]) {
                    book.put(key, key + 100);
                }
                book.commit();
                count += i >= n - 1 ? 1 : 0;
                check.same("promise 7: level 0 first, by keys, " + i + " after " + n, book.chunks(), count);
            }
        }
    }

    private static void shared() {
        SealedBook book = new SealedBook();
        check.same("promise 7: a new store", book.chunks(), 0);
        book.commit();
        check.same("promise 7: no items, no chunk", book.chunks(), 0);
        book.put(5, 50);
        check.same("promise 7: not before the commit", book.chunks(), 0);
        book.commit();
        check.same("promise 7: one item, one chunk", book.chunks(), 1);
        book.commit();
        check.same("promise 7: no changes, no chunk", book.chunks(), 1);
        book.put(5, 51);
        book.commit();
        check.same("promise 7: another value, another chunk", book.chunks(), 2);
        book.put(5, 50);
        book.commit();
        check.same("promise 7: what a version had is not written again", book.chunks(), 2);
        book.delete(5);
        book.put(6, 50);
        book.commit();
        check.same("promise 7: another key, another chunk", book.chunks(), 3);
        book.rollback();
        check.same("promise 7: rollback leaves the store", book.chunks(), 3);
        SealedBook all = new SealedBook();
        putAll(all, 0);
        all.commit();
        check.same("promise 7: all keys", all.chunks(), 17);
        all.put(30, -1);
        all.commit();
        check.same("promise 7: one path is new", all.chunks(), 20);
        all.delete(47);
        all.commit();
        check.same("promise 7: the last path is new", all.chunks(), 23);
    }

    /** The same keys and values at another level make another chunk. */
    private static void levels() {
        SealedBook book = new SealedBook();
        putSix(book);
        book.commit();
        check.same("promise 7: three, two and one", book.chunks(), 6);
        int hash = Model.mix(Model.mix(Model.mix(6, 0), 0), 100);
        clear(book);
        book.put(0, hash);
        book.commit();
        check.same("promise 7: the first chunk of level 1, at level 0", book.chunks(), 7);
        book.put(0, 100);
        book.commit();
        check.same("promise 7: the first chunk of level 0", book.chunks(), 7);
    }

    /** Chunks of level 0 that differ but have one hash: what stands over them has the same items. */
    private static void sameHash() {
        int start = Model.mix(6, 0);
        int one = Model.mix(Model.mix(Model.mix(start, 1), 10), 4);
        int two = Model.mix(Model.mix(Model.mix(start, 1), 11), 4);
        int value = 40;
        int twin = one ^ value ^ two;
        SealedBook book = new SealedBook();
        book.put(1, 10);
        book.put(4, value);
        book.put(5, 50);
        book.commit();
        check.same("promise 7: 1 4, 5 and one above", book.chunks(), 3);
        book.put(1, 11);
        book.put(4, twin);
        book.commit();
        check.same("promise 7: the roots are the same", book.root(2), book.root(1));
        check.same("promise 7: the chunk above stands over another one", book.chunks(), 5);
        check.same("promise 9: the first version's value", book.get(1, 1), 10);
        check.same("promise 9: the second version's value", book.get(2, 1), 11);
        check.same("promise 9: the second version's other value", book.get(2, 4), twin);
        book.put(1, 10);
        book.put(4, value);
        book.commit();
        check.same("promise 7: back to the first ones", book.chunks(), 5);
        check.same("promise 9: with their value", book.get(3, 1), 10);
    }

    /** A chunk of two items and one of one item, with one last key and one hash. */
    private static void sameHashOtherLength() {
        int start = Model.mix(6, 0);
        int two = Model.mix(Model.mix(Model.mix(start, 1), 10), 4);
        int one = Model.mix(start, 4);
        int twin = two ^ 40 ^ one;
        SealedBook book = new SealedBook();
        book.put(1, 10);
        book.put(4, 40);
        book.commit();
        book.delete(1);
        book.put(4, twin);
        book.commit();
        check.same("promise 7: the roots are the same", book.root(2), book.root(1));
        check.same("promise 7: another number of items", book.chunks(), 2);
        check.same("promise 9: the one item", book.get(2, 4), twin);
        check.noValue("promise 9: and no other", () -> book.get(2, 1));
    }

    /** As many chunks as 512 calls can well write: all trees but the first lack their record. */
    private static void mostChunks() {
        SealedBook book = new SealedBook();
        putAll(book, 0);
        book.commit();
        int[] oneOfEach = {0, 4, 8, 12, 13, 16, 19, 26, 28, 31, 41, 42, 47};
        for (int round = 1; round <= 30; round++) {
            for (int key : oneOfEach) {
                book.put(key, 1000 * round + key);
            }
            book.fail(18);
            check.same("promise 6: the record of round " + round, book.commit(), NONE);
        }
        check.same("promise 7: the chunks of all rounds", book.chunks(), 17 + 17 * 30);
        check.same("promise 9: the version's value", book.get(1, 47), 47);
        check.same("promise 9: the transaction's value", book.get(NONE, 47), 47);
    }

    public static void main(String[] args) {
        numbers();
        overCommits();
        eachWrite();
        order();
        shared();
        levels();
        sameHash();
        sameHashOtherLength();
        mostChunks();
        check.finish();
    }
}
