import java.util.ArrayList;
import java.util.List;

/** Promises 13 to 15: prove, proveGrowth, proof. */
public final class ProofTest {
    private static final Check check = new Check();
    private static final int NONE = SealedBook.NONE;

    private static final Model model = filledModel();

    private static int key(int v, int i) {
        return (i * 7 + v * 5) % 48;
    }

    /** 16 versions, with trees of none to three levels; new for each proof, to keep to 512 calls. */
    private static SealedBook filledBook() {
        SealedBook book = new SealedBook();
        for (int v = 1; v < 16; v++) {
            for (int i = 0; i < v; i++) {
                book.put(key(v, i), i * 0x01020304);
            }
            for (int key = 0; key < 48 && v == 5; key++) {
                book.delete(key);
            }
            book.commit();
        }
        return book;
    }

    private static Model filledModel() {
        Model filled = new Model();
        for (int v = 1; v < 16; v++) {
            for (int i = 0; i < v; i++) {
                filled.put(key(v, i), i * 0x01020304);
            }
            for (int key = 0; key < 48 && v == 5; key++) {
                filled.delete(key);
            }
            filled.commit();
        }
        return filled;
    }

    static List<Integer> bytesOf(SealedBook from) {
        List<Integer> bytes = new ArrayList<>();
        for (int i = 0; i < 400 && from.proof(i) != NONE; i++) {
            bytes.add(from.proof(i));
        }
        return bytes;
    }

    private static void compare(String what, SealedBook book, int length) {
        for (int i = 0; i < length; i++) {
            check.same(what + " byte " + i, book.proof(i), model.proof(i));
        }
        check.same(what + " ends", book.proof(length), NONE);
    }

    private static void everyProof() {
        for (int n = 1; n <= 16; n++) {
            for (int v = 0; v < n; v++) {
                for (int key = 0; key < 48; key += n == 16 ? 1 : 13) {
                    String what = "promise 13: prove(" + n + ", " + v + ", " + key + ")";
                    int length = model.prove(n, v, key);
                    SealedBook book = filledBook();
                    check.same(what, book.prove(n, v, key), length);
                    compare(what, book, length);
                }
            }
        }
    }

    private static void everyGrowth() {
        for (int n = 2; n <= 16; n++) {
            for (int m = 1; m < n; m++) {
                String what = "promise 14: proveGrowth(" + m + ", " + n + ")";
                int length = model.proveGrowth(m, n);
                SealedBook book = filledBook();
                check.same(what, book.proveGrowth(m, n), length);
                compare(what, book, length);
            }
        }
    }

    /** All keys have values: three levels, the chunks known from the document's cuts. */
    private static void wholeTree() {
        SealedBook all = new SealedBook();
        for (int key = 0; key < 48; key++) {
            all.put(key, key * key);
        }
        all.commit();
        check.same("promise 13: bytes for key 30", all.prove(2, 1, 30), 94);
        check.same("promise 15: one seal beside it", all.proof(0), 1);
        check.same("promise 15: three levels", all.proof(5), 3);
        check.same("promise 15: three items above", all.proof(6), 3);
        check.same("promise 15: the first one's key", all.proof(7), 0);
        check.same("promise 15: the second one's key", all.proof(12), 42);
        check.same("promise 15: the third one's key", all.proof(17), 47);
        check.same("promise 15: eleven items below", all.proof(22), 11);
        check.same("promise 15: three items at last", all.proof(78), 3);
        check.same("promise 15: the first one's key", all.proof(79), 29);
        check.same("promise 15: the first one's value", all.proof(82) * 256 + all.proof(83), 29 * 29);
        check.same("promise 15: the last byte", all.proof(93), 31 * 31 & 255);
        check.same("promise 15: behind it", all.proof(94), NONE);
        check.same("promise 15: before the first", all.proof(-1), NONE);
        check.same("promise 15: far before", all.proof(Integer.MIN_VALUE), NONE);
        check.same("promise 15: far behind", all.proof(Integer.MAX_VALUE), NONE);
    }

    private static void beyondTheLastKey() {
        SealedBook some = new SealedBook();
        for (int key : new int[] {4, 5, 8, 9}) {
            some.put(key, key);
        }
        some.commit();
        int length = some.prove(2, 1, 47);
        check.same("promise 13: the last item's chunk is shown", some.proof(length - 5), 9);
        length = some.prove(2, 1, 6);
        check.same("promise 13: the first item's not below", some.proof(length - 5), 8);
        length = some.prove(2, 1, 0);
        check.same("promise 13: the first item's", some.proof(length - 5), 4);
    }

    private static void wrongOnes() {
        SealedBook two = new SealedBook();
        two.put(5, 50);
        two.commit();
        check.same("promise 15: none yet", two.proof(0), NONE);
        two.prove(2, 1, 5);
        List<Integer> before = bytesOf(two);
        int[][] wrong = {{3, 1, 5}, {2, 2, 5}, {2, -1, 5}, {2, 1, 48}, {2, 1, -1}, {0, 0, 5}, {1, 1, 5}, {-1, 0, 5},
            {-1, -2, 5}, {17, 0, 5}, {Integer.MAX_VALUE, 0, 5}, {Integer.MIN_VALUE, 0, 5},
            {2, Integer.MIN_VALUE, 5}, {2, Integer.MAX_VALUE, 5}, {2, 0, Integer.MAX_VALUE}, {2, 0, Integer.MIN_VALUE}};
        for (int[] w : wrong) {
            check.noKey("promise 13: prove(" + w[0] + ", " + w[1] + ", " + w[2] + ")",
                    () -> two.prove(w[0], w[1], w[2]));
        }
        int[][] wrongGrowth = {{0, 1}, {0, 2}, {1, 1}, {2, 2}, {2, 1}, {1, 3}, {-1, 2}, {1, 0}, {1, -1},
            {Integer.MIN_VALUE, 2}, {1, Integer.MAX_VALUE}, {Integer.MAX_VALUE, Integer.MIN_VALUE}};
        for (int[] w : wrongGrowth) {
            check.noKey("promise 14: proveGrowth(" + w[0] + ", " + w[1] + ")", () -> two.proveGrowth(w[0], w[1]));
        }
        check.yes("promises 13, 14: the proof before stays", bytesOf(two).equals(before));
        two.put(5, 51);
        two.commit();
        check.yes("promise 15: later commits leave it", bytesOf(two).equals(before));
        check.same("promise 14: a growth", two.proveGrowth(1, 2), 5);
        check.same("promise 15: a shorter proof leaves nothing behind", two.proof(5), NONE);
        check.same("promise 13: an empty version", two.prove(1, 0, 5), 2);
        check.same("promise 15: no seals", two.proof(0), 0);
        check.same("promise 15: no levels", two.proof(1), 0);
        check.same("promise 15: no more", two.proof(2), NONE);
    }

    public static void main(String[] args) {
        everyProof();
        everyGrowth();
        wholeTree();
        beyondTheLastKey();
        wrongOnes();
        check.finish();
    }
}
