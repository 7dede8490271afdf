/** 'Terms', THE STORE and HISTORY: a test for each sentence that names a boundary case. */
public final class TermsStoreTest {
    private static final Check check = new Check();
    private static final int NONE = Books.NONE;

    /** Six chunks: 0 / 1 4 / 5 at level 0, 0 / 4 5 at level 1, 0 5 at level 2. */
    private static void putSix(SealedBook book) {
        for (int key : new int[] {0, 1, 4, 5}) {
            book.put(key, key + 100);
        }
    }

    private static final int SIX_AND_RECORD = 7;

    private static void sameItems() {
        check.sentence("Terms", "two are the same if they have the same level and items");
        SealedBook book = Books.with(1, 10, 2, 20);
        check.same("the first", book.chunks(), 1);
        book.commit();
        check.same("all the same", book.chunks(), 1);
        book.put(2, 21);
        book.commit();
        check.same("another value", book.chunks(), 2);
        book.put(3, 30);
        book.commit();
        check.same("an item more", book.chunks(), 3);
        book.delete(3);
        book.delete(1);
        book.commit();
        check.same("an item less", book.chunks(), 4);
        book.put(1, 10);
        book.put(2, 20);
        book.commit();
        check.same("the first one again", book.chunks(), 4);
    }

    /** 0 alone has the items at level 0 that it has at level 1, its value being the hash. */
    private static void sameLevel() {
        check.sentence("Terms", "the same level");
        SealedBook book = new SealedBook();
        putSix(book);
        book.commit();
        check.same("three, two and one", book.chunks(), 6);
        Books.clear(book);
        book.put(0, Model.mix(Model.mix(Model.mix(6, 0), 0), 100));
        book.commit();
        check.same("items of level 1 at level 0", book.chunks(), 7);
    }

    /** Two chunks of level 0 with one hash: the items over them are the same. */
    private static void sameBelow() {
        check.sentence("Terms", "and stand over the same chunks");
        int start = Model.mix(6, 0);
        int first = Model.mix(Model.mix(Model.mix(start, 1), 10), 4);
        int other = Model.mix(Model.mix(Model.mix(start, 1), 11), 4);
        SealedBook book = Books.with(1, 10, 4, 40, 5, 50);
        check.same("two and one", book.chunks(), 3);
        book.put(1, 11);
        book.put(4, first ^ 40 ^ other);
        book.commit();
        check.same("one hash", book.root(2), book.root(1));
        check.same("a chunk below and the one above are new", book.chunks(), 5);
        check.same("the first version", book.get(1, 1), 10);
        check.same("the other one", book.get(2, 1), 11);
        book.put(1, 10);
        book.put(4, 40);
        book.commit();
        check.same("back to the first ones", book.chunks(), 5);
        check.same("with their values", book.get(3, 1), 10);
    }

    /** A chunk of two items and one of one item, with one last key and one hash. */
    private static void sameHash() {
        check.sentence("Terms", "the same level and items");
        int start = Model.mix(6, 0);
        int two = Model.mix(Model.mix(Model.mix(start, 1), 10), 4);
        int twin = two ^ 40 ^ Model.mix(start, 4);
        SealedBook book = Books.with(1, 10, 4, 40);
        book.delete(1);
        book.put(4, twin);
        book.commit();
        check.same("one hash", book.root(2), book.root(1));
        check.same("another number of items", book.chunks(), 2);
        check.same("the one item", book.get(2, 4), twin);
        check.noValue("and no other", () -> book.get(2, 1));
    }

    private static void written() {
        check.sentence("Terms", "A commit writes those chunks of its version that no version had before");
        SealedBook book = new SealedBook();
        putSix(book);
        book.commit();
        check.same("all of the first", book.chunks(), 6);
        book.commit();
        check.same("none without changes", book.chunks(), 6);
        book.put(5, 0);
        book.commit();
        check.same("5, 4 5 and 0 5", book.chunks(), 9);
        book.delete(5);
        book.commit();
        check.same("4 and 0 4", book.chunks(), 11);
        book.put(5, 105);
        book.commit();
        check.same("none of a version before the last", book.chunks(), 11);
        Books.clear(book);
        book.commit();
        check.same("none without items", book.chunks(), 11);
    }

    private static void record() {
        check.sentence("Terms", "and one RECORD");
        SealedBook book = new SealedBook();
        book.fail(2);
        check.same("one write without chunks", book.commit(), 1);
        check.same("and the next", book.commit(), NONE);
        book.put(1, 1);
        book.commit();
        book.fail(2);
        check.same("one write without new chunks", book.commit(), 3);
        check.same("and the next again", book.commit(), NONE);
    }

    private static void numberOfWrites() {
        check.sentence("Terms", "It makes as many WRITES as that, the record last.");
        SealedBook last = new SealedBook();
        putSix(last);
        last.fail(SIX_AND_RECORD);
        check.same("the last one fails", last.commit(), NONE);
        check.same("all chunks are written then", last.chunks(), 6);
        check.same("no version", last.versions(), 1);
        SealedBook next = new SealedBook();
        putSix(next);
        next.fail(SIX_AND_RECORD + 1);
        check.same("no further one", next.commit(), 1);
        check.same("it is the next commit's", next.commit(), NONE);
    }

    /** Commits of one chunk of the six tell whether it was written. */
    private static void order() {
        check.sentence("Terms", "Chunks are written level by level, in a level by their keys.");
        int[][] bottom = {{0}, {1, 4}, {5}};
        for (int n = 1; n <= SIX_AND_RECORD; n++) {
            for (int i = 0; i < bottom.length; i++) {
                check.same("chunk " + i + " of level 0, write " + n + " having failed", chunksAfter(n, bottom[i]),
                        n - 1 + (i < n - 1 ? 0 : 1));
            }
        }
        for (int n = 4; n <= SIX_AND_RECORD; n++) {
            // Without key 5 the chunk of 0 at level 1 is the same, the others above level 0 are not.
            check.same("chunk 0 of level 1, write " + n + " having failed", chunksAfter(n, 0, 1, 4),
                    n - 1 + (n == 4 ? 3 : 2));
            // Without key 0 the chunk of 4 and 5 at level 1 is the top.
            check.same("chunk 1 of level 1, write " + n + " having failed", chunksAfter(n, 1, 4, 5),
                    n - 1 + (n <= 5 ? 1 : 0));
        }
    }

    /** After a commit of the six whose n-th write failed, and one of these keys. */
    private static int chunksAfter(int n, int... keys) {
        SealedBook book = new SealedBook();
        putSix(book);
        book.fail(n);
        book.commit();
        for (int key : keys) {
            book.put(key, key + 100);
        }
        book.commit();
        return book.chunks();
    }

    private static void didNotHappen() {
        check.sentence("Terms", "If a write fails, the commit did not happen");
        for (int n = 1; n <= SIX_AND_RECORD; n++) {
            SealedBook book = Books.with(40, 4);
            int digest = book.digest(2);
            putSix(book);
            book.delete(40);
            book.fail(n);
            check.same("commit with write " + n, book.commit(), NONE);
            check.same("versions", book.versions(), 2);
            check.same("digest", book.digest(2), digest);
            check.noKey("no digest of 3", () -> book.digest(3));
            check.noKey("no version 2", () -> book.get(2, 0));
            check.same("version 1", book.get(1, 40), 4);
            check.same("the next commit has the number", book.commit(), 2);
        }
    }

    private static void written1To6Stay() {
        check.sentence("Terms", "the chunks written before stay in the store");
        for (int n = 1; n <= SIX_AND_RECORD; n++) {
            SealedBook book = new SealedBook();
            putSix(book);
            book.fail(n);
            book.commit();
            check.same("write " + n + " failed", book.chunks(), n - 1);
            book.commit();
            book.rollback();
            check.same("and later, write " + n, book.chunks(), n - 1);
        }
    }

    private static void notWrittenAgain() {
        check.sentence("Terms", "(and are not written again)");
        for (int n = 1; n <= SIX_AND_RECORD; n++) {
            SealedBook book = new SealedBook();
            putSix(book);
            book.fail(n);
            book.commit();
            putSix(book);
            int left = SIX_AND_RECORD - (n - 1);
            book.fail(left + 1);
            check.same("the commit again, after write " + n, book.commit(), 1);
            check.same("it made what was left, after write " + n, book.commit(), NONE);
            check.same("each once, after write " + n, book.chunks(), 6);
        }
    }

    private static void transactionGone() {
        check.sentence("Terms", "and the transaction is gone");
        for (int n = 1; n <= SIX_AND_RECORD; n++) {
            SealedBook book = Books.with(40, 4, 41, 5);
            putSix(book);
            book.put(40, 9);
            book.delete(41);
            book.fail(n);
            book.commit();
            check.noValue("what was put, write " + n, () -> book.get(NONE, 5));
            check.same("what was changed, write " + n, book.get(NONE, 40), 4);
            check.same("what was deleted, write " + n, book.get(NONE, 41), 5);
            book.commit();
            check.same("the next version, write " + n, book.root(2), book.root(1));
        }
    }

    private static void leaf() {
        check.sentence("Terms", "the LEAF of version v is MIX (MIX (7, v), its root)");
        check.same("of version 0, with root 0", new SealedBook().digest(1), -1024475667);
        SealedBook book = Books.with(5, 50, 7, 70);
        check.same("of version 1, beside that of 0", book.digest(2), 1319716453);
        book.rollback();
        book.delete(5);
        book.delete(7);
        book.commit();
        check.same("of version 2, with root 0 too", book.digest(3),
                Model.join(book.digest(2), Model.leaf(2, 0)));
    }

    /** Of 16 empty versions; worked out apart from this project's Java. */
    private static final int[] EMPTY_DIGESTS = {0, -1024475667, 1602193722, -1894478640, 1280136627, -1019275087,
        87982377, 1215271852, 540131608, -2001556558, -1275761453, -532342138, 1243809107, -208325812, -1512634387,
        -1111697455, 1214140871};

    private static SealedBook empty16() {
        SealedBook book = new SealedBook();
        for (int v = 1; v < 16; v++) {
            book.commit();
        }
        return book;
    }

    private static void seals() {
        SealedBook book = empty16();
        check.sentence("Terms", "The DIGEST of n versions (0 .. n - 1) is the SEAL of their leaves in order: of one, itself");
        check.same("digest of one", book.digest(1), Model.leaf(0, 0));
        check.same("by its number", book.digest(1), EMPTY_DIGESTS[1]);
        check.sentence("Terms", "of n above 1: MIX (MIX (8, a), b), where b is the seal of the last ones and a of the first"
                + " m ones, m the greatest power of 2 below n");
        for (int n = 2; n <= 16; n++) {
            check.same("digest of " + n, book.digest(n), EMPTY_DIGESTS[n]);
        }
        int a = Model.join(Model.leaf(0, 0), Model.leaf(1, 0));
        check.same("of 3: two and one", book.digest(3), Model.join(a, Model.leaf(2, 0)));
        int b = Model.join(Model.leaf(2, 0), Model.leaf(3, 0));
        check.same("of 4: two and two, not four", book.digest(4), Model.join(a, b));
        check.same("of 5: four and one", book.digest(5), Model.join(Model.join(a, b), Model.leaf(4, 0)));
        check.sentence("Terms", "The digest of 0 is 0.");
        check.same("with 16 versions", book.digest(0), 0);
        check.same("with one version", new SealedBook().digest(0), 0);
    }

    public static void main(String[] args) {
        sameItems();
        sameLevel();
        sameBelow();
        sameHash();
        written();
        record();
        numberOfWrites();
        order();
        didNotHappen();
        written1To6Stay();
        notWrittenAgain();
        transactionGone();
        leaf();
        seals();
        check.finish();
    }
}
