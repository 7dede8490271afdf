import java.util.ArrayList;
import java.util.List;

/** 'Terms', BYTES, A PROOF and A GROWTH: a test for each sentence that names a boundary case. */
public final class TermsProofTest {
    private static final Check check = new Check();
    private static final int NONE = Books.NONE;

    private static void sameBytes(String what, List<Integer> got, List<Integer> due) {
        check.same(what + ", length", got.size(), due.size());
        for (int i = 0; i < Math.min(got.size(), due.size()); i++) {
            check.same(what + ", byte " + i, got.get(i), due.get(i));
        }
    }

    private static SealedBook squares() {
        SealedBook book = new SealedBook();
        for (int key = 0; key < 48; key++) {
            book.put(key, key * key);
        }
        book.commit();
        return book;
    }

    private static void bytes() {
        check.sentence("Terms", "BYTES of proofs are 0 .. 255; an int is four of them, the highest first.");
        SealedBook book = Books.with(5, 50, 7, -70);
        check.same("how many", book.prove(2, 1, 5), 17);
        sameBytes("of 5 and 7", Books.proofOf(book),
                Books.bytes(1, 194, 239, 189, 237, 1, 2, 5, 0, 0, 0, 50, 7, 255, 255, 255, 186));
        SealedBook edges = Books.with(1, Books.LEAST, 2, Books.MOST, 3, -1, 5, 0x80ff7f01);
        edges.prove(2, 1, 1);
        sameBytes("of the values", Books.proofOf(edges).subList(6, 27), Books.bytes(4, 1, 128, 0, 0, 0,
                2, 127, 255, 255, 255, 3, 255, 255, 255, 255, 5, 128, 255, 127, 1));
    }

    /** By n, for each v. */
    private static final String[] WAY_LENGTHS = {"0", "11", "221", "2222", "33331", "333322", "3333332", "33333333",
        "444444441", "4444444422", "44444444332", "444444443333", "4444444444442", "44444444444433",
        "444444444444443", "4444444444444444"};

    private static void wayLengths() {
        check.sentence("Terms", "each an int, with their number as a byte before them");
        for (int n = 1; n <= 16; n++) {
            SealedBook book = Books.ofVersions(16);
            for (int v = 0; v < n; v++) {
                int length = book.prove(n, v, 47);
                int due = WAY_LENGTHS[n - 1].charAt(v) - '0';
                check.same("the number for " + v + " in " + n, book.proof(0), due);
                check.yes("the ints for " + v + " in " + n, length >= 1 + 4 * due + 1);
            }
        }
    }

    /** Each row: n, v, and the parts beside the leaf, each by its first leaf and the one behind its last. */
    private static final int[][] WAYS = {{1, 0}, {2, 0, 1, 2}, {2, 1, 0, 1}, {3, 0, 1, 2, 2, 3}, {3, 2, 0, 2},
        {4, 0, 1, 2, 2, 4}, {4, 3, 2, 3, 0, 2}, {5, 4, 0, 4}, {7, 5, 4, 5, 6, 7, 0, 4}, {9, 8, 0, 8},
        {13, 12, 8, 12, 0, 8}, {15, 14, 12, 14, 8, 12, 0, 8}, {16, 0, 1, 2, 2, 4, 4, 8, 8, 16},
        {16, 7, 6, 7, 4, 6, 0, 4, 8, 16}, {16, 8, 9, 10, 10, 12, 12, 16, 0, 8}, {16, 15, 14, 15, 12, 14, 8, 12, 0, 8}};

    private static List<Integer> sealsOf(SealedBook book, int[] row) {
        int[] seals = new int[(row.length - 2) / 2];
        for (int i = 0; i < seals.length; i++) {
            seals[i] = Books.seal(book, row[2 + 2 * i], row[3 + 2 * i]);
        }
        return Books.ints(seals);
    }

    private static void ways() {
        check.sentence("Terms", "the seals of the parts beside it, from the leaf up (of the n leaves: those of the half"
                + " it is in, if that has more than one, then the seal of the other half)");
        for (int[] row : WAYS) {
            SealedBook book = Books.ofVersions(16);
            book.prove(row[0], row[1], 0);
            List<Integer> due = sealsOf(book, row);
            sameBytes("way of " + row[1] + " in " + row[0], Books.proofOf(book).subList(0, due.size()), due);
        }
    }

    private static void levels() {
        check.sentence("Terms", "Then the number of levels of the tree as a byte");
        int[][] keys = {{}, {47}, {4, 47}, {0, 47}};
        for (int levels = 0; levels < keys.length; levels++) {
            SealedBook book = Books.withKeys(keys[levels]);
            book.prove(2, 1, 47);
            check.same("levels", book.proof(5), levels);
        }
        SealedBook empty = new SealedBook();
        check.same("no seals, no levels", empty.prove(1, 0, 47), 2);
        sameBytes("of the first version", Books.proofOf(empty), Books.bytes(0, 0));
    }

    private static List<Integer> chunk(int... keysAndValues) {
        List<Integer> bytes = new ArrayList<>();
        Model.addNode(bytes, Books.node(0, keysAndValues));
        return bytes;
    }

    /** The chunks of the squares, hashes worked out apart from this project's Java. */
    private static void highestFirst() {
        check.sentence("Terms", "and for each, the highest first, one chunk: the number of its items as a byte, and for"
                + " each item its key as a byte and its value as an int");
        SealedBook book = squares();
        book.prove(2, 1, 31);
        List<Integer> due = Books.bytes(1, 194, 239, 189, 237, 3);
        due.addAll(chunk(0, 524955524, 42, -994414971, 47, 1021680707));
        due.addAll(chunk(4, -770285700, 8, -2001484560, 12, 1007599806, 13, 1650049005, 16, 752725650, 19, 1784042276,
                26, 1392614208, 28, 1558228884, 31, 1475229619, 41, -975179694, 42, 698626792));
        due.addAll(chunk(29, 841, 30, 900, 31, 961));
        sameBytes("of the squares", Books.proofOf(book), due);
    }

    private static void wholeTop() {
        check.sentence("Terms", "The chunk of the highest level is all of it");
        for (int key = 0; key < 48; key++) {
            SealedBook book = squares();
            book.prove(2, 1, key);
            check.same("items for " + key, book.proof(6), 3);
            check.same("the first, for " + key, book.proof(7), 0);
            check.same("the second, for " + key, book.proof(12), 42);
            check.same("the third, for " + key, book.proof(17), 47);
        }
    }

    /** The keys of the chunk of level 0 that a proof of version 1 shows. */
    private static String bottomKeys(SealedBook book, int key) {
        book.prove(2, 1, key);
        List<Integer> bytes = Books.proofOf(book);
        int at = 6;
        for (int level = bytes.get(5) - 1; level > 0; level--) {
            at += 1 + 5 * bytes.get(at);
        }
        StringBuilder keys = new StringBuilder();
        for (int i = 0; i < bytes.get(at); i++) {
            keys.append(bytes.get(at + 1 + 5 * i)).append(' ');
        }
        return keys.toString().trim();
    }

    private static void shows(String due, int key, int... keys) {
        String got = bottomKeys(Books.withKeys(keys), key);
        check.yes("the chunk for " + key + " is '" + got + "', due is '" + due + "':", got.equals(due));
    }

    private static void chunkBelow() {
        int[] keys = {3, 4, 6, 8, 20, 22};
        check.sentence("Terms", "below, the chunk for the first item with a key not below k");
        shows("3 4", 3, keys);
        shows("3 4", 4, keys);
        shows("6 8", 5, keys);
        shows("6 8", 8, keys);
        shows("20 22", 9, keys);
        shows("20 22", 22, keys);
        shows("3 4", 0, keys);
        shows("0", 0, 0, 1, 42, 43);
        shows("1 42", 1, 0, 1, 42, 43);
        shows("1 42", 42, 0, 1, 42, 43);
        shows("43", 43, 0, 1, 42, 43);
        check.sentence("Terms", "or for the last item");
        shows("20 22", 23, keys);
        shows("20 22", 47, keys);
        shows("43", 44, 0, 1, 42, 43);
        shows("43", 47, 0, 1, 42, 43);
    }

    /** Each row: m, n, and the parts as above. */
    private static final int[][] WHERE_NOTHING_IS_GIVEN = {{1, 2, 1, 2}, {2, 3, 2, 3}, {1, 3, 1, 2, 2, 3}, {2, 4, 2, 4},
        {4, 5, 4, 5}, {4, 8, 4, 8}, {8, 9, 8, 9}, {8, 16, 8, 16}, {1, 16, 1, 2, 2, 4, 4, 8, 8, 16}};
    private static final int[][] WHERE_A_SEAL_IS_GIVEN = {{3, 4, 2, 3, 3, 4, 0, 2}, {3, 5, 2, 3, 3, 4, 0, 2, 4, 5},
        {6, 7, 4, 6, 6, 7, 0, 4}, {7, 8, 6, 7, 7, 8, 4, 6, 0, 4}, {7, 13, 6, 7, 7, 8, 4, 6, 0, 4, 8, 13},
        {12, 16, 8, 12, 12, 16, 0, 8}, {15, 16, 14, 15, 15, 16, 12, 14, 8, 12, 0, 8}};
    private static final int[][] AT_MOST_HALF = {{2, 4, 2, 4}, {4, 7, 4, 7}, {4, 8, 4, 8}, {8, 16, 8, 16},
        {10, 12, 8, 10, 10, 12, 0, 8}};
    private static final int[][] ABOVE_HALF = {{5, 8, 4, 5, 5, 6, 6, 8, 0, 4}, {9, 16, 8, 9, 9, 10, 10, 12, 12, 16, 0, 8},
        {3, 4, 2, 3, 3, 4, 0, 2}, {9, 10, 8, 9, 9, 10, 0, 8}};

    private static void growths(int[][] rows) {
        for (int[] row : rows) {
            SealedBook book = Books.ofVersions(16);
            book.proveGrowth(row[0], row[1]);
            sameBytes("growth " + row[0] + ", " + row[1], Books.proofOf(book), sealsOf(book, row));
        }
    }

    /** By n, for each m from 1 on. */
    private static final String[] GROWTH_LENGTHS = {"1", "21", "213", "3241", "32413", "324143", "3241434", "43525451",
        "435254513", "4352545143", "43525451434", "435254515453", "4352545154534", "43525451545354", "435254515453545"};

    private static void growthLengths() {
        for (int n = 2; n <= 16; n++) {
            SealedBook book = Books.ofVersions(16);
            for (int m = 1; m < n; m++) {
                int due = GROWTH_LENGTHS[n - 2].charAt(m - 1) - '0';
                check.same("bytes of " + m + ", " + n, book.proveGrowth(m, n), 1 + 4 * due);
                check.same("the number of " + m + ", " + n, book.proof(0), due);
                check.same("none behind " + m + ", " + n, book.proof(1 + 4 * due), NONE);
            }
        }
    }

    /** So many versions like those of Books.ofVersions(16), and then others. */
    private static SealedBook startingLike(int same, int count) {
        SealedBook book = new SealedBook();
        for (int v = 1; v < count; v++) {
            book.put(3 * v, v < same ? v * 1001 : -v);
            book.commit();
        }
        return book;
    }

    private static void anotherDigest() {
        check.sentence("Terms", "A GROWTH (m, n), 0 < m < n, that the first m of n versions are those of another digest");
        for (int m = 2; m < 16; m++) {
            SealedBook book = Books.ofVersions(16);
            book.proveGrowth(m, 16);
            List<Integer> bytes = Books.proofOf(book);
            int newer = book.digest(16);
            check.yes("the same " + m, Books.grows(bytes, startingLike(m, m + 1).digest(m), m, newer, 16));
            check.no("not the last of " + m, Books.grows(bytes, startingLike(m - 1, m + 1).digest(m), m, newer, 16));
            check.no("none but the first of " + m, Books.grows(bytes, startingLike(1, m + 1).digest(m), m, newer, 16));
        }
    }

    private static void growth() {
        check.sentence("Terms", "A GROWTH (m, n), 0 < m < n");
        SealedBook book = Books.ofVersions(4);
        check.same("1 of 2", book.proveGrowth(1, 2), 5);
        check.same("3 of 4", book.proveGrowth(3, 4), 13);
        check.noKey("0 of 4", () -> book.proveGrowth(0, 4));
        check.noKey("4 of 4", () -> book.proveGrowth(4, 4));
        check.sentence("Terms", "if m is q: nothing if p is 0");
        growths(WHERE_NOTHING_IS_GIVEN);
        check.sentence("Terms", "else the seal of this part");
        growths(WHERE_A_SEAL_IS_GIVEN);
        check.sentence("Terms", "if m is at most h, the greatest power of 2 below q: PART (p, h, m), and then the seal of"
                + " the other q - h");
        growths(AT_MOST_HALF);
        check.sentence("Terms", "else PART (p + h, q - h, m - h), and then the seal of the first h");
        growths(ABOVE_HALF);
        check.sentence("Terms", "Each an int, with their number as a byte before them.");
        growthLengths();
    }

    public static void main(String[] args) {
        bytes();
        wayLengths();
        ways();
        levels();
        highestFirst();
        wholeTop();
        chunkBelow();
        anotherDigest();
        growth();
        check.finish();
    }
}
