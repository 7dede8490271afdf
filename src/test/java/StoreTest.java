/** Promises 6 and 7: failing writes, and how many chunks the store has; by their sentences. */
public final class StoreTest {
    private static final Check check = new Check();
    private static final Twins twins = new Twins(check);
    private static final int NONE = Books.NONE;

    /** How many commits of one write each go well before one fails; 15 when none fails. */
    private static int goodCommits(SealedBook book) {
        int good = 0;
        while (good < 16 && book.versions() < 16 && book.commit() != NONE) {
            good++;
        }
        return good;
    }

    private static void nthWrite() {
        check.sentence("Promise 6", "The n-th write from now on fails (n is 1 .. 40)");
        for (int n = 1; n <= 15; n++) {
            SealedBook book = new SealedBook();
            check.yes("fail(" + n + ")", book.fail(n));
            check.same("good commits before write " + n, goodCommits(book), n - 1);
            check.same("and no other fails", goodCommits(book), 16 - n);
        }
        for (int n = 1; n <= 40; n++) {
            check.yes("fail(" + n + ")", new SealedBook().fail(n));
        }
        SealedBook late = new SealedBook();
        late.commit();
        late.commit();
        late.fail(2);
        check.same("from now on: the writes before do not count", goodCommits(late), 1);
        SealedBook full = Twins.full();
        check.yes("fail(1) with 16 versions", full.fail(1));
        check.no("fail(0) with 16 versions", full.fail(0));
    }

    private static void instead() {
        check.sentence("Promise 6", "instead of one that was to fail");
        int[][] pairs = {{1, 3}, {3, 1}, {2, 2}, {1, 40}, {40, 1}};
        for (int[] pair : pairs) {
            SealedBook book = new SealedBook();
            book.fail(pair[0]);
            book.fail(pair[1]);
            check.same("fail(" + pair[0] + ") and fail(" + pair[1] + ")", goodCommits(book), Math.min(pair[1] - 1, 15));
            if (pair[1] < 16) {
                check.same("and no other after " + pair[0] + ", " + pair[1], goodCommits(book), 16 - pair[1]);
            }
        }
        SealedBook anew = new SealedBook();
        anew.fail(2);
        anew.commit();
        anew.fail(2);
        check.same("counted anew", goodCommits(anew), 1);
    }

    private static void overCommits() {
        check.sentence("Promise 6", "(counted over commits;)");
        SealedBook book = new SealedBook();
        book.fail(40);
        Books.putAll(book, 0);
        check.same("writes 1 to 18", book.commit(), 1);
        Books.putAll(book, 1);
        check.same("writes 19 to 36", book.commit(), 2);
        check.same("write 37", book.commit(), 3);
        book.put(3, 0);
        book.rollback();
        check.same("write 38", book.commit(), 4);
        check.same("write 39", book.commit(), 5);
        check.same("write 40", book.commit(), NONE);
        check.same("write 41", book.commit(), 6);
        SealedBook chunk = new SealedBook();
        chunk.fail(40);
        Books.putAll(chunk, 0);
        chunk.commit();
        Books.putAll(chunk, 1);
        chunk.commit();
        Books.putAll(chunk, 2);
        check.same("write 40 is one of chunks", chunk.commit(), NONE);
        check.same("three of its chunks came", chunk.chunks(), 17 + 17 + 3);
    }

    private static void anotherN() {
        check.sentence("Promise 6", "false, changing nothing, for another n");
        for (int n : new int[] {0, -1, 41, 42, Books.LEAST, Books.MOST}) {
            check.no("fail(" + n + ")", new SealedBook().fail(n));
            twins.untouched("fail(" + n + ")", twin -> twin.fail(n));
            SealedBook book = new SealedBook();
            book.fail(3);
            book.fail(n);
            check.same("the third write fails still, fail(" + n + ")", goodCommits(book), 2);
            SealedBook none = new SealedBook();
            none.fail(n);
            check.same("none fails still, fail(" + n + ")", goodCommits(none), 15);
        }
        twins.untouchedBut("fail leaves all but the failing write", twin -> twin.fail(1), twin -> twin.fail(7));
    }

    private static void chunks() {
        check.sentence("Promise 7", "How many chunks the store has.");
        SealedBook book = new SealedBook();
        check.same("a new store", book.chunks(), 0);
        book.commit();
        check.same("no items", book.chunks(), 0);
        book.put(5, 50);
        check.same("before the commit", book.chunks(), 0);
        book.commit();
        check.same("one item", book.chunks(), 1);
        book.commit();
        check.same("no changes", book.chunks(), 1);
        book.put(5, 51);
        book.commit();
        check.same("another value", book.chunks(), 2);
        book.put(5, 50);
        book.commit();
        check.same("what a version had", book.chunks(), 2);
        book.delete(5);
        book.put(6, 50);
        book.commit();
        check.same("another key", book.chunks(), 3);
        book.put(7, 70);
        book.rollback();
        check.same("rollback", book.chunks(), 3);
        SealedBook all = new SealedBook();
        Books.putAll(all, 0);
        all.commit();
        check.same("all keys", all.chunks(), 17);
        all.put(30, -1);
        all.commit();
        check.same("one path is new", all.chunks(), 20);
        all.delete(47);
        all.commit();
        check.same("the last path is new", all.chunks(), 23);
    }

    /** All trees but the first lack their record. */
    private static void mostChunks() {
        check.sentence("Promise 7", "How many chunks the store has.");
        SealedBook book = new SealedBook();
        Books.putAll(book, 0);
        book.commit();
        int[] oneOfEach = {0, 4, 8, 12, 13, 16, 19, 26, 28, 31, 41, 42, 47};
        for (int round = 1; round <= 30; round++) {
            for (int key : oneOfEach) {
                book.put(key, 1000 * round + key);
            }
            book.fail(18);
            check.same("the record of round " + round, book.commit(), NONE);
        }
        check.same("the chunks of all rounds", book.chunks(), 17 + 17 * 30);
        check.same("the version's value", book.get(1, 47), 47);
        check.same("the transaction's value", book.get(NONE, 47), 47);
    }

    public static void main(String[] args) {
        nthWrite();
        instead();
        overCommits();
        anotherN();
        chunks();
        mostChunks();
        check.finish();
    }
}
