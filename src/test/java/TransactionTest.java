/** Promises 1 to 5: a new object, put, delete, commit, rollback; by their sentences. */
public final class TransactionTest {
    private static final Check check = new Check();
    private static final Twins twins = new Twins(check);
    private static final int NONE = Books.NONE;

    private static void newObject() {
        SealedBook book = new SealedBook();
        check.sentence("Promise 1", "Version 0");
        check.same("versions", book.versions(), 1);
        check.same("its keys", book.range(0, Books.LEAST, Books.MOST), 0);
        check.same("its root", book.root(0), 0);
        check.same("digest of it", book.digest(1), -1024475667);
        check.same("chunks", book.chunks(), 0);
        check.noKey("no version 1", () -> book.root(1));
        for (int key = 0; key < 48; key++) {
            int k = key;
            check.noValue("key " + k, () -> book.get(0, k));
        }
        check.sentence("Promise 1", "no transaction's changes");
        for (int key = 0; key < 48; key++) {
            int k = key;
            check.noValue("key " + k, () -> book.get(NONE, k));
        }
        check.same("the first commit", book.commit(), 1);
        check.same("no keys came", book.range(1, 0, 47), 0);
        check.same("no write was to fail", book.commit(), 2);
        check.sentence("Promise 1", "no proof");
        for (int i : new int[] {Books.LEAST, -1, 0, 1, 399, Books.MOST}) {
            check.same("byte " + i, book.proof(i), NONE);
        }
        check.same("carried", book.carry(0, 1), 0);
        check.sentence("Promise 1", "no bytes");
        check.same("verify", new SealedBook().verify(-1024475667, 1, 0, 0), 0);
        SealedBook other = new SealedBook();
        other.take(0, 2);
        check.same("two bytes taken are all", other.verify(-1024475667, 1, 0, 0), 1);
        check.sentence("Promise 19", "0 before");
        check.same("shown", new SealedBook().shown(), 0);
    }

    private static void put() {
        SealedBook book = new SealedBook();
        check.sentence("Promise 2", "In the transaction, key has this value.");
        book.put(0, Books.LEAST);
        book.put(47, Books.MOST);
        book.put(20, 0);
        check.same("key 0", book.get(NONE, 0), Books.LEAST);
        check.same("key 47", book.get(NONE, 47), Books.MOST);
        check.same("value 0", book.get(NONE, 20), 0);
        book.put(47, -1);
        check.same("the later value", book.get(NONE, 47), -1);
        check.noValue("not in version 0", () -> book.get(0, 47));
        book.commit();
        check.same("all of them", book.range(1, 0, 47), 3);
        book.put(20, 21);
        check.same("over a committed value", book.get(NONE, 20), 21);
        check.same("the version stays", book.get(1, 20), 0);
        book.delete(0);
        book.put(0, 5);
        check.same("after delete", book.get(NONE, 0), 5);
        check.sentence("Promise 2", "IllegalArgumentException, changing nothing, when there is no such key");
        for (int key : Books.NO_KEYS) {
            check.noKey("put(" + key + ", 1)", () -> book.put(key, 1));
            twins.untouched("put(" + key + ", 1)", twin -> twin.put(key, 1));
        }
        SealedBook full = Twins.full();
        check.noKey("no such key with 16 versions", () -> full.put(48, 1));
        check.noKey("no such key below with 16 versions", () -> full.put(-1, 1));
        check.sentence("Promise 2", "IllegalStateException when there are 16 versions already");
        check.full("put(9, 1)", () -> full.put(9, 1));
        check.full("put of the same value", () -> full.put(9, 99));
        twins.fullUntouched("put(9, 1)", twin -> twin.put(9, 1));
        SealedBook fifteen = Books.ofVersions(15);
        fifteen.put(9, 1);
        check.same("with 15 versions", fifteen.get(NONE, 9), 1);
    }

    private static void delete() {
        SealedBook book = new SealedBook();
        check.sentence("Promise 3", "In the transaction, key has no value. Answers whether it had one there.");
        check.no("had none", book.delete(5));
        book.put(5, 0);
        check.yes("had one of the transaction", book.delete(5));
        check.no("had one no more", book.delete(5));
        check.noValue("gone", () -> book.get(NONE, 5));
        book.put(0, 7);
        book.put(47, 8);
        book.commit();
        check.yes("had one of the version", book.delete(47));
        check.noValue("gone in the transaction", () -> book.get(NONE, 47));
        check.no("not there, though the version has it", book.delete(47));
        check.same("the version stays", book.get(1, 47), 8);
        check.yes("key 0", book.delete(0));
        check.same("commit", book.commit(), 2);
        check.same("nothing left", book.range(2, 0, 47), 0);
        check.no("had none in the last version", book.delete(0));
        check.sentence("Promise 3", "Throws as put.");
        for (int key : Books.NO_KEYS) {
            check.noKey("delete(" + key + ")", () -> book.delete(key));
            twins.untouched("delete(" + key + ")", twin -> twin.delete(key));
        }
        SealedBook full = Twins.full();
        check.full("delete(9) with 16 versions", () -> full.delete(9));
        check.full("delete of a key without value with 16 versions", () -> full.delete(8));
        check.noKey("delete(48) with 16 versions", () -> full.delete(48));
        check.noKey("delete(-1) with 16 versions", () -> full.delete(-1));
        twins.fullUntouched("delete(9)", twin -> twin.delete(9));
        check.yes("delete(9) with 15 versions", Books.ofVersions(15).delete(9));
    }

    private static void commit() {
        SealedBook book = new SealedBook();
        check.sentence("Promise 4", "The transaction becomes a version, also without changes; answers its number");
        check.same("without changes", book.commit(), 1);
        book.put(9, 90);
        check.same("with a change", book.commit(), 2);
        check.same("the transaction goes on from there", book.get(NONE, 9), 90);
        book.put(10, 100);
        check.same("the next", book.commit(), 3);
        check.same("what did not change is there", book.get(3, 9), 90);
        check.same("what changed is there", book.get(3, 10), 100);
        check.noValue("and not in the one before", () -> book.get(2, 10));
        check.same("without changes later", book.commit(), 4);
        check.same("the same keys", book.range(4, 0, 47), 2);
        check.sentence("Promise 4", "NONE when a write failed");
        book.put(9, 91);
        book.fail(1);
        check.same("a chunk's write", book.commit(), NONE);
        book.fail(1);
        check.same("the record's write", book.commit(), NONE);
        check.same("no version", book.versions(), 5);
        check.same("the number is free still", book.commit(), 5);
        check.same("without the change", book.get(5, 9), 90);
        check.sentence("Promise 4", "Throws IllegalStateException when there are 16 versions already.");
        SealedBook fifteen = Books.ofVersions(15);
        check.same("with 15 versions", fifteen.commit(), 15);
        check.full("with 16 versions", fifteen::commit);
        check.full("with 16 versions again", fifteen::commit);
        check.same("still 16", fifteen.versions(), 16);
        twins.fullUntouched("commit with 16 versions", SealedBook::commit);
        SealedBook failing = Books.ofVersions(15);
        failing.fail(1);
        check.same("the last one fails", failing.commit(), NONE);
        check.same("and is made then", failing.commit(), 15);
        failing.fail(1);
        check.full("a write that is to fail with 16 versions", failing::commit);
    }

    private static void rollback() {
        SealedBook book = new SealedBook();
        check.sentence("Promise 5", "The changes of the transaction are gone.");
        book.put(1, 1);
        book.rollback();
        check.noValue("back to version 0", () -> book.get(NONE, 1));
        Books.putAll(book, 7);
        book.commit();
        for (int key = 0; key < 48; key += 2) {
            book.delete(key);
            book.put(key + 1, -1);
        }
        book.rollback();
        for (int key = 0; key < 48; key++) {
            check.same("key " + key, book.get(NONE, key), key + 7);
        }
        check.same("no version came", book.versions(), 2);
        check.same("none went", book.get(1, 47), 54);
        book.commit();
        check.same("the root is the same", book.root(2), book.root(1));
        twins.fullUntouched("rollback with 16 versions", SealedBook::rollback);
        twins.untouchedBut("rollback leaves all but the changes", SealedBook::rollback, SealedBook::rollback);
        twins.untouchedBut("rollback twice", SealedBook::rollback, twin -> {
            twin.rollback();
            twin.rollback();
        });
    }

    public static void main(String[] args) {
        newObject();
        put();
        delete();
        commit();
        rollback();
        check.finish();
    }
}
