import java.util.ArrayList;
import java.util.List;
import java.util.function.Consumer;
import java.util.function.Supplier;

/**
 * Two books with the same past, one of which gets a call more: if that call changes
 * nothing, everything that both answer later is the same.
 */
final class Twins {
    private final Check check;

    Twins(Check check) {
        this.check = check;
    }

    /** Three versions, changes, a write that is to fail, a proof, the verifier's bytes and a value shown. */
    static SealedBook busy() {
        SealedBook book = new SealedBook();
        for (int key : new int[] {0, 3, 4, 9, 20, 42, 47}) {
            book.put(key, 10 * key - 100);
        }
        book.commit();
        book.put(9, 1);
        book.delete(3);
        book.commit();
        giveProof(book, 3, 2, 20);
        book.verify(book.digest(3), 3, 2, 20);
        giveProof(book, 3, 2, 9);
        book.put(5, 55);
        book.put(9, 99);
        book.delete(47);
        book.fail(12);
        return book;
    }

    /** 16 versions, with the rest as in busy. */
    static SealedBook full() {
        SealedBook book = busy();
        book.fail(40);
        for (int v = 3; v < 16; v++) {
            book.commit();
        }
        return book;
    }

    private static void giveProof(SealedBook book, int n, int v, int key) {
        book.prove(n, v, key);
        book.carry(-1, 0);
    }

    void untouched(String what, Consumer<SealedBook> call) {
        compare(what + ", a new object", SealedBook::new, call, book -> { });
        compare(what + ", a busy one", Twins::busy, call, book -> { });
        compare(what + ", a full one", Twins::full, call, book -> { });
    }

    void fullUntouched(String what, Consumer<SealedBook> call) {
        compare(what, Twins::full, call, book -> { });
    }

    /** What the call may change is made the same by a further call on both. */
    void untouchedBut(String what, Consumer<SealedBook> call, Consumer<SealedBook> then) {
        compare(what, Twins::busy, call, then);
    }

    private void compare(String what, Supplier<SealedBook> make, Consumer<SealedBook> call, Consumer<SealedBook> then) {
        SealedBook one = make.get();
        SealedBook other = make.get();
        Check.answer(() -> {
            call.accept(one);
            return 0;
        });
        then.accept(one);
        then.accept(other);
        List<String> got = everything(one);
        List<String> due = everything(other);
        for (int i = 0; i < due.size(); i++) {
            check.yes(what + ": later '" + got.get(i) + "', due is '" + due.get(i) + "'", got.get(i).equals(due.get(i)));
        }
    }

    /** The last ones change the book, to bring out what is held inside. */
    private static List<String> everything(SealedBook book) {
        List<String> all = new ArrayList<>();
        all.add("versions " + book.versions());
        all.add("chunks " + book.chunks());
        all.add("shown " + book.shown());
        for (int key = 0; key < 48; key++) {
            int k = key;
            all.add("key " + k + " " + Check.answer(() -> book.get(SealedBook.NONE, k)));
        }
        for (int v = 0; v < book.versions(); v++) {
            all.add("version " + v + " " + book.root(v) + " " + book.range(v, 0, 47) + " " + book.digest(v + 1));
        }
        all.add("proof " + Books.proofOf(book));
        int n = Math.min(book.versions(), 3);
        all.add("verify " + book.verify(book.digest(n), n, n - 1, 9));
        all.add("shown then " + book.shown());
        for (int i = 0; i < 16; i++) {
            all.add("commit " + Check.answer(book::commit));
            all.add("chunks then " + book.chunks());
        }
        return all;
    }
}
