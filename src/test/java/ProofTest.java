import java.util.List;

/** Promises 13 to 15: prove, proveGrowth, proof; by their sentences. */
public final class ProofTest {
    private static final Check check = new Check();
    private static final Twins twins = new Twins(check);
    private static final int NONE = Books.NONE;
    private static final int LEAST = Books.LEAST;
    private static final int MOST = Books.MOST;

    private static final Model model = filledModel();

    private static int key(int v, int i) {
        return (i * 7 + v * 5) % 48;
    }

    /** 16 versions, with trees of none to three levels; new for each proof, to keep to 512 calls. */
    private static SealedBook filledBook() {
        SealedBook book = new SealedBook();
        for (int v = 1; v < 16; v++) {
            for (int i = 0; i < v; i++) {
                book.put(key(v, i), i * 0x01020304);
            }
            for (int key = 0; key < 48 && v == 5; key++) {
                book.delete(key);
            }
            book.commit();
        }
        return book;
    }

    private static Model filledModel() {
        Model filled = new Model();
        for (int v = 1; v < 16; v++) {
            for (int i = 0; i < v; i++) {
                filled.put(key(v, i), i * 0x01020304);
            }
            for (int key = 0; key < 48 && v == 5; key++) {
                filled.delete(key);
            }
            filled.commit();
        }
        return filled;
    }

    private static void compare(String what, SealedBook book, int length) {
        for (int i = 0; i < length; i++) {
            check.same(what + " byte " + i, book.proof(i), model.proof(i));
        }
        check.same(what + " ends", book.proof(length), NONE);
    }

    private static void everyProof() {
        check.sentence("Promise 13", "Makes the proof (n, v, key); answers how many bytes it has.");
        for (int n = 1; n <= 16; n++) {
            for (int v = 0; v < n; v++) {
                for (int key = 0; key < 48; key += n == 16 ? 1 : 13) {
                    String what = "prove(" + n + ", " + v + ", " + key + ")";
                    int length = model.prove(n, v, key);
                    SealedBook book = filledBook();
                    check.same(what, book.prove(n, v, key), length);
                    compare(what, book, length);
                }
            }
        }
    }

    /** The longest proof: 4 seals, and chunks of 3, 11 and 10 items. */
    private static void longest() {
        check.sentence("Promise 13", "answers how many bytes it has");
        SealedBook book = new SealedBook();
        Books.putAll(book, 1000);
        for (int v = 1; v < 16; v++) {
            book.commit();
        }
        check.same("bytes for 35", book.prove(16, 1, 35), 141);
        check.same("the last byte", book.proof(140), 1041 & 255);
        check.same("behind it", book.proof(141), NONE);
        check.same("all carried", book.carry(-1, 0), 141);
        check.same("and taken", book.verify(book.digest(16), 16, 1, 35), 2);
        check.same("shown", book.shown(), 1035);
    }

    private static void wrongProofs() {
        SealedBook book = Books.with(5, 50);
        book.prove(2, 1, 5);
        check.sentence("Promise 13", "IllegalArgumentException when there are not n versions");
        noProofs(book, new int[][] {{3, 1, 5}, {3, 0, 5}, {3, 2, 5}, {16, 0, 5}, {17, 0, 5}, {MOST, 0, 5}});
        check.noKey("17 of 16", () -> Books.ofVersions(16).prove(17, 16, 5));
        check.sentence("Promise 13", "v is not 0 .. n - 1");
        int[][] wrongVersions = {{2, 2, 5}, {1, 1, 5}, {2, -1, 5}, {1, NONE, 5}, {0, 0, 5}, {0, -1, 5}, {-1, 0, 5}, {-1, -2, 5},
            {-1, -1, 5}, {LEAST, 0, 5}, {LEAST, LEAST, 5}, {2, LEAST, 5}, {2, MOST, 5}};
        noProofs(book, wrongVersions);
        check.sentence("Promise 13", "or there is no such key");
        int[][] wrongKeys = {{2, 1, 48}, {2, 1, -1}, {2, 0, 48}, {2, 0, -1}, {1, 0, LEAST}, {1, 0, MOST}};
        noProofs(book, wrongKeys);
        check.sentence("Promise 13", "(the proof before stays)");
        check.yes("as it was", Books.proofOf(book).equals(
                Books.bytes(1, 194, 239, 189, 237, 1, 1, 5, 0, 0, 0, 50)));
        for (int[][] rows : List.of(new int[][] {{17, 0, 5}, {17, 16, 5}, {MOST, 0, 5}}, wrongVersions, wrongKeys)) {
            for (int[] row : rows) {
                twins.untouched("prove(" + row[0] + ", " + row[1] + ", " + row[2] + ")",
                        twin -> twin.prove(row[0], row[1], row[2]));
            }
        }
    }

    private static void noProofs(SealedBook book, int[][] rows) {
        for (int[] row : rows) {
            check.noKey("prove(" + row[0] + ", " + row[1] + ", " + row[2] + ")",
                    () -> book.prove(row[0], row[1], row[2]));
        }
    }

    private static void everyGrowth() {
        check.sentence("Promise 14", "Makes the proof of a growth (m, n); answers how many bytes it has.");
        for (int n = 2; n <= 16; n++) {
            for (int m = 1; m < n; m++) {
                String what = "proveGrowth(" + m + ", " + n + ")";
                int length = model.proveGrowth(m, n);
                SealedBook book = filledBook();
                check.same(what, book.proveGrowth(m, n), length);
                compare(what, book, length);
            }
        }
    }

    private static void wrongGrowths() {
        SealedBook book = Books.with(5, 50);
        book.prove(2, 1, 5);
        check.sentence("Promise 14", "IllegalArgumentException when it is not 0 < m < n");
        int[][] wrong = {{0, 1}, {0, 2}, {0, 0}, {1, 1}, {2, 2}, {2, 1}, {-1, 2}, {-1, 1}, {1, 0}, {1, -1}, {-2, -1}, {LEAST, 2},
            {LEAST, MOST}, {MOST, LEAST}, {MOST, MOST}, {LEAST, LEAST}};
        noGrowths(book, wrong);
        check.noKey("of one version", () -> new SealedBook().proveGrowth(1, 1));
        check.sentence("Promise 14", "or there are not n versions");
        int[][] many = {{1, 3}, {2, 3}, {1, 16}, {1, 17}, {1, MOST}, {MOST - 1, MOST}};
        noGrowths(book, many);
        check.noKey("1, 2 in a new object", () -> new SealedBook().proveGrowth(1, 2));
        check.noKey("16, 17 of 16", () -> Books.ofVersions(16).proveGrowth(16, 17));
        check.same("15, 16 of 16", Books.ofVersions(16).proveGrowth(15, 16), 21);
        check.sentence("Promise 14", "(the proof before stays)");
        check.yes("as it was", Books.proofOf(book).equals(
                Books.bytes(1, 194, 239, 189, 237, 1, 1, 5, 0, 0, 0, 50)));
        for (int[] row : wrong) {
            twins.untouched("proveGrowth(" + row[0] + ", " + row[1] + ")", twin -> twin.proveGrowth(row[0], row[1]));
        }
        twins.untouched("proveGrowth(1, 17)", twin -> twin.proveGrowth(1, 17));
    }

    private static void noGrowths(SealedBook book, int[][] rows) {
        for (int[] row : rows) {
            check.noKey("proveGrowth(" + row[0] + ", " + row[1] + ")", () -> book.proveGrowth(row[0], row[1]));
        }
    }

    private static void latest() {
        SealedBook book = Books.with(5, 50);
        check.sentence("Promise 15", "Byte i of the latest proof");
        book.prove(2, 1, 5);
        List<Integer> before = Books.proofOf(book);
        check.same("the first", book.proof(0), 1);
        check.same("the last", book.proof(11), 50);
        book.put(5, 51);
        book.commit();
        book.rollback();
        book.take(1, 1);
        book.carry(0, 255);
        book.verify(1, 2, 1, 5);
        check.yes("other calls leave it", Books.proofOf(book).equals(before));
        check.same("a growth", book.proveGrowth(1, 2), 5);
        check.same("is the latest", book.proof(4), Model.leaf(1, book.root(1)) & 255);
        check.same("an empty version's", book.prove(1, 0, 5), 2);
        check.same("no seals", book.proof(0), 0);
        check.same("no levels", book.proof(1), 0);
        check.sentence("Promise 15", "NONE when there is none");
        check.same("behind the last", book.proof(2), NONE);
        check.same("where a longer proof had one", book.proof(4), NONE);
        for (int i : new int[] {-1, LEAST, 399, 400, MOST}) {
            check.same("byte " + i, book.proof(i), NONE);
        }
        check.same("no proof", new SealedBook().proof(0), NONE);
        twins.untouched("proof(0)", twin -> twin.proof(0));
        twins.untouched("proof(-1)", twin -> twin.proof(-1));
        twins.untouchedBut("prove leaves all but the proof", twin -> twin.prove(2, 1, 4), twin -> twin.prove(3, 1, 4));
        twins.untouchedBut("proveGrowth leaves all but the proof", twin -> twin.proveGrowth(1, 3),
                twin -> twin.prove(3, 1, 4));
    }

    public static void main(String[] args) {
        everyProof();
        longest();
        wrongProofs();
        everyGrowth();
        wrongGrowths();
        latest();
        check.finish();
    }
}
