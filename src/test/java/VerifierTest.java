import java.util.ArrayList;
import java.util.List;

/** Promises 16 to 20: take, carry, verify, shown, verifyGrowth; by their sentences. */
public final class VerifierTest {
    private static final Check check = new Check();
    private static final Twins twins = new Twins(check);
    private static final int LEAST = Books.LEAST;
    private static final int MOST = Books.MOST;

    /** The digest of one empty version, whose proof is two bytes of 0. */
    private static final int EMPTY = -1024475667;

    /** A book of 16 versions; new for each proof, to keep to 512 calls. */
    private static SealedBook filledBook() {
        SealedBook book = new SealedBook();
        for (int v = 1; v < 16; v++) {
            for (int key = v % 3; key < 48; key += v == 9 ? 1 : 5) {
                book.put(key, v * 257 + key);
            }
            book.commit();
        }
        return book;
    }

    /** A growth (1, 2) is one byte and an int, so its digests tell the bytes that were taken. */
    private static void takenBytes(String what, SealedBook book, int due) {
        check.yes(what, book.verifyGrowth(9, 1, Model.join(9, due), 2));
    }

    private static void take() {
        check.sentence("Promise 16", "Appends the n lowest bytes of word (n is 1 .. 4), the highest of them first, to the"
                + " verifier's bytes");
        SealedBook book = new SealedBook();
        book.take(1, 1);
        check.yes("4", book.take(0x89abcdef, 4));
        takenBytes("four at once", book, 0x89abcdef);
        book.take(0x7fffff01, 1);
        check.yes("3", book.take(0x11223344, 3));
        check.yes("1", book.take(0x55667788, 1));
        takenBytes("three and one", book, 0x22334488);
        book.take(0xff000100, 2);
        book.take(0x11223344, 3);
        takenBytes("two and three", book, 0x00223344);
        for (int i = 0; i < 5; i++) {
            check.yes("1", book.take(0xffffff00 | i + 1, 1));
        }
        takenBytes("five times one", book, 0x02030405);
        book.take(0x01ff, 2);
        book.take(-1, 3);
        takenBytes("highest bits", book, -1);
    }

    private static void takeRefused() {
        check.sentence("Promise 16", "false, changing nothing, when n is not as said");
        for (int n : new int[] {0, -1, 5, 8, LEAST, MOST}) {
            check.no("take(0, " + n + ")", new SealedBook().take(0, n));
            twins.untouched("take(0, " + n + ")", twin -> twin.take(0, n));
        }
        check.sentence("Promise 16", "or there would be more than 400");
        for (int n = 1; n <= 4; n++) {
            SealedBook book = new SealedBook();
            int taken = 0;
            while (taken + n <= 400) {
                check.yes("up to 400 by " + n, book.take(0, n));
                taken += n;
            }
            check.no("beyond 400 by " + n, book.take(0, n));
            check.same("one more, by " + n, book.take(0, 1) ? 1 : 0, taken < 400 ? 1 : 0);
            check.no("the 401st, by " + n, book.take(0, 1));
            book.verify(0, 1, 0, 0);
            check.yes("room again", book.take(0, n));
        }
        for (int free = 0; free < 4; free++) {
            SealedBook book = new SealedBook();
            for (int i = 0; i < 400 - free; i++) {
                book.take(0, 1);
            }
            for (int n = 4; n > free; n--) {
                check.no(n + " with room for " + free, book.take(0, n));
            }
            check.yes("just the room, " + free, free == 0 || book.take(0, free));
            check.no("no more room, " + free, book.take(0, 1));
        }
        SealedBook carried = Books.with(5, 50);
        int length = carried.prove(2, 1, 5);
        carried.carry(-1, 0);
        int more = 0;
        while (more < 401 && carried.take(0, 1)) {
            more++;
        }
        check.same("behind carried ones", more, 400 - length);
    }

    /** A proof of 6 levels of just 398 bytes: all are read, and a refused take leaves them. */
    private static void fourHundred() {
        check.sentence("Promise 16", "changing nothing");
        Model.Node[] nodes = new Model.Node[6];
        nodes[5] = Books.row(0, 48);
        int[] sizes = {48, 7, 7, 7, 7, 2};
        for (int level = 1; level < 6; level++) {
            int[] items = new int[2 * sizes[level]];
            for (int i = 0; i < sizes[level]; i++) {
                items[2 * i] = 48 - sizes[level] + i;
                items[2 * i + 1] = i;
            }
            items[items.length - 1] = nodes[6 - level].hash();
            nodes[5 - level] = Books.node(level, items);
        }
        List<Integer> bytes = Books.forged(nodes);
        int digest = Books.digestOver(nodes[0]);
        check.same("the length of a long proof", bytes.size(), 398);
        SealedBook book = Books.holding(bytes);
        check.no("three more", book.take(0, 3));
        check.no("four more", book.take(0, 4));
        check.same("the long proof", book.verify(digest, 1, 0, 47), 2);
        check.same("what it shows", book.shown(), 1047);
        bytes.add(0);
        bytes.add(0);
        check.same("two bytes more", Books.verify(bytes, digest, 1, 0, 47), 0);
    }

    private static void carry() {
        check.sentence("Promise 17", "The verifier's bytes become those of the latest proof");
        SealedBook book = new SealedBook();
        book.take(0, 2);
        check.same("no proof", book.carry(0, 255), 0);
        check.same("then no bytes", book.verify(EMPTY, 1, 0, 7), 0);
        book.prove(1, 0, 7);
        book.take(9, 4);
        check.same("two bytes", book.carry(0, 0), 2);
        check.same("not those before", book.verify(EMPTY, 1, 0, 7), 1);
        book.carry(0, 0);
        check.same("twice", book.carry(0, 0), 2);
        book.take(0, 1);
        check.same("taken behind it", book.verify(EMPTY, 1, 0, 7), 0);
        book.carry(1, 1);
        check.same("the proof itself stays", book.proof(1), 0);
        book.put(1, 0x12345678);
        book.commit();
        check.same("a growth too", book.proveGrowth(1, 2), book.carry(0, 0));
        check.yes("as it is", book.verifyGrowth(EMPTY, 1, book.digest(2), 2));
        check.sentence("Promise 17", "but the one at i, which is xored with mask (lowest 8 bits");
        int length = book.prove(2, 1, 1);
        for (int i = 0; i < 4; i++) {
            for (int mask : new int[] {1, 0x80, 0xff, 0x799, -1, 0x7fffff00, LEAST}) {
                int value = 0x12345678 ^ (mask & 255) << 24 - 8 * i;
                book.carry(length - 4 + i, mask);
                int hash = Model.mix(Model.mix(Model.mix(6, 0), 1), value);
                check.same("byte " + i + " of the value, mask " + mask,
                        book.verify(Model.join(Model.leaf(0, 0), Model.leaf(1, hash)), 2, 1, 1), 2);
                check.same("shown then", book.shown(), value);
            }
        }
        book.prove(1, 0, 7);
        book.carry(0, 1);
        check.same("the first byte", book.verify(EMPTY, 1, 0, 7), 0);
        book.carry(1, 1);
        check.same("the last byte", book.verify(EMPTY, 1, 0, 7), 0);
        check.sentence("Promise 17", "nothing happens to it if there is no such byte)");
        for (int i : new int[] {-1, 2, 3, 399, 400, LEAST, MOST}) {
            check.same("bytes, byte " + i, book.carry(i, 255), 2);
            check.same("taken, byte " + i, book.verify(EMPTY, 1, 0, 7), 1);
        }
        twins.untouchedBut("carry leaves all but the bytes", twin -> twin.carry(3, 9), twin -> twin.carry(-1, 0));
    }

    private static void carriedLength() {
        check.sentence("Promise 17", "Answers how many there are.");
        check.same("no proof", new SealedBook().carry(-1, 0), 0);
        SealedBook book = Books.with(4, 4, 47, 47);
        check.same("two levels", book.prove(2, 1, 47), book.carry(-1, 0));
        check.same("with a byte harmed", book.carry(0, 255), 23);
        check.same("where there is none", book.carry(23, 255), 23);
        book.prove(1, 0, 3);
        check.same("of a shorter one", book.carry(0, 0), 2);
    }

    private static void honest() {
        check.sentence("Promise 18", "The verifier, holding digest of n versions, takes its bytes for a proof (n, v, key):"
                + " 0 refused, 1 taken: there is no value, 2 taken: there is one.");
        for (int n = 1; n <= 16; n++) {
            for (int v = 0; v < n; v++) {
                for (int key = (n + v) % 5; key < 48; key += 5) {
                    honest(n, v, key);
                }
            }
        }
    }

    private static void honest(int n, int v, int key) {
        String what = "verify(.., " + n + ", " + v + ", " + key + ")";
        SealedBook book = filledBook();
        book.prove(n, v, key);
        List<Integer> bytes = Books.proofOf(book);
        int digest = book.digest(n);
        boolean there = book.range(v, key, key) == 1;
        SealedBook verifier = Books.holding(bytes);
        check.same(what, verifier.verify(digest, n, v, key), there ? 2 : 1);
        check.same("shown", verifier.shown(), there ? book.get(v, key) : 0);
        check.same(what + ", another digest", Books.verify(bytes, digest ^ 1 << key % 32, n, v, key), 0);
        for (int other = 0; other < 16; other++) {
            if (other != n && other > v) {
                boolean alike = sides(other, v).equals(sides(n, v));
                check.same(what + " as of " + other, Books.verify(bytes, digest, other, v, key),
                        !alike ? 0 : there ? 2 : 1);
            }
            if (other != v && other < n) {
                check.same(what + " as version " + other, Books.verify(bytes, digest, n, other, key), 0);
            }
        }
    }

    /** On which sides of leaf v the parts beside it lie: a digest tells nothing else of n. */
    private static String sides(int n, int v) {
        StringBuilder sides = new StringBuilder();
        for (int[] part : Model.way(0, n, v)) {
            sides.append(part[0] < v ? 'a' : 'b');
        }
        return sides.toString();
    }

    private static void harmed() {
        check.sentence("Promise 18", "0 refused");
        int[][] which = {{1, 0, 3}, {2, 1, 1}, {7, 6, 20}, {16, 9, 30}, {16, 15, 47}, {11, 10, 0}};
        for (int[] w : which) {
            SealedBook book = filledBook();
            int length = book.prove(w[0], w[1], w[2]);
            int digest = book.digest(w[0]);
            List<Integer> bytes = Books.proofOf(book);
            check.same("all bytes are there", bytes.size(), length);
            for (int i = 0; i < length; i++) {
                for (int bit = 1; bit < 256; bit *= 2) {
                    List<Integer> copy = new ArrayList<>(bytes);
                    copy.set(i, copy.get(i) ^ bit);
                    check.same("byte " + i + " xor " + bit, Books.verify(copy, digest, w[0], w[1], w[2]), 0);
                }
                check.same("cut at " + i, Books.verify(bytes.subList(0, i), digest, w[0], w[1], w[2]), 0);
            }
            for (int more = 0; more < 3; more++) {
                List<Integer> copy = new ArrayList<>(bytes);
                copy.add(more);
                check.same("one too many", Books.verify(copy, digest, w[0], w[1], w[2]), 0);
            }
        }
    }

    /** The items 3, 7 and 20 in one chunk, or in two levels. */
    private static void valueOrNone() {
        Model.Node one = Books.node(0, 3, 33, 7, 77, 20, 0);
        Model.Node top = Books.node(1, 20, one.hash());
        for (int key = 0; key < 48; key++) {
            boolean there = key == 3 || key == 7 || key == 20;
            check.sentence("Promise 18", there ? "2 taken: there is one" : "1 taken: there is no value");
            check.same("key " + key, Books.verify(Books.forged(one), Books.digestOver(one), 1, 0, key), there ? 2 : 1);
            check.same("key " + key + ", two levels",
                    Books.verify(Books.forged(top, one), Books.digestOver(top), 1, 0, key), there ? 2 : 1);
        }
        check.sentence("Promise 18", "1 taken: there is no value");
        check.same("an item above is none", Books.verify(
                Books.forged(Books.node(1, 5, Books.node(0, 5, 1).hash()), Books.node(0, 5, 1)),
                Books.digestOver(Books.node(1, 5, Books.node(0, 5, 1).hash())), 1, 0, 4), 1);
        SealedBook after = Books.holding(Books.forged(one));
        after.verify(Books.digestOver(one), 1, 0, 7);
        after.take(0, 2);
        check.same("no levels, after a value of the key", after.verify(EMPTY, 1, 0, 7), 1);
    }

    private static void gone() {
        check.sentence("Promise 18", "The bytes are gone then.");
        SealedBook book = new SealedBook();
        book.take(0, 2);
        check.same("taken", book.verify(EMPTY, 1, 0, 0), 1);
        check.same("gone when taken", book.verify(EMPTY, 1, 0, 0), 0);
        book.take(0, 2);
        check.same("refused", book.verify(EMPTY + 1, 1, 0, 0), 0);
        check.same("gone when refused", book.verify(EMPTY, 1, 0, 0), 0);
        book.take(0, 2);
        check.same("only those taken since", book.verify(EMPTY, 1, 0, 0), 1);
        book.take(7, 1);
        book.verify(EMPTY, 1, 0, 0);
        book.take(0, 2);
        check.same("only those taken since one cut short", book.verify(EMPTY, 1, 0, 0), 1);
        twins.untouchedBut("a refused verify leaves all but the bytes", twin -> twin.verify(1, 3, 2, 9),
                twin -> twin.carry(-1, 0));
    }

    private static void wrongQuestions() {
        check.sentence("Promise 18", "IllegalArgumentException, changing nothing, when n is not 1 .. 16");
        noVerify(new int[][] {{0, 0, 0}, {17, 0, 0}, {17, 16, 0}, {-1, 0, 0}, {-1, -2, 0}, {LEAST, 0, 0}, {MOST, 0, 0}});
        check.sentence("Promise 18", "v not 0 .. n - 1");
        noVerify(new int[][] {{1, 1, 0}, {1, -1, 0}, {16, 16, 0}, {16, -1, 0}, {1, LEAST, 0}, {1, MOST, 0}});
        check.sentence("Promise 18", "or there is no such key");
        noVerify(new int[][] {{1, 0, 48}, {1, 0, -1}, {16, 15, 48}, {1, 0, LEAST}, {1, 0, MOST}});
        check.sentence("Promise 18", "when n is not 1 .. 16");
        SealedBook book = new SealedBook();
        check.same("n is 1", book.verify(EMPTY, 1, 0, 47), 0);
        check.same("n is 16, v is 15", book.verify(EMPTY, 16, 15, 0), 0);
    }

    private static void noVerify(int[][] rows) {
        for (int[] row : rows) {
            String what = "verify(.., " + row[0] + ", " + row[1] + ", " + row[2] + ")";
            SealedBook book = new SealedBook();
            book.take(0, 2);
            check.noKey(what, () -> book.verify(EMPTY, row[0], row[1], row[2]));
            check.same("the bytes are there still after " + what, book.verify(EMPTY, 1, 0, 0), 1);
            twins.untouched(what, twin -> twin.verify(EMPTY, row[0], row[1], row[2]));
        }
    }

    private static void shown() {
        SealedBook book = Books.with(5, -50, 7, 70);
        int digest = book.digest(2);
        check.sentence("Promise 19", "0 before");
        check.same("at first", book.shown(), 0);
        book.prove(2, 1, 5);
        book.carry(-1, 0);
        check.same("no verify yet", book.shown(), 0);
        check.same("refused", book.verify(digest + 1, 2, 1, 5), 0);
        check.same("one refused", book.shown(), 0);
        book.carry(-1, 0);
        check.same("taken", book.verify(digest, 2, 1, 6), 1);
        check.same("one without value", book.shown(), 0);
        check.sentence("Promise 19", "The value that the latest verify that answered 2 has shown");
        book.carry(-1, 0);
        check.same("taken", book.verify(digest, 2, 1, 5), 2);
        check.same("its value", book.shown(), -50);
        check.same("its value again", book.shown(), -50);
        check.sentence("Promise 19", "(Others leave it.)");
        othersLeave(book, digest, -50);
        book.prove(2, 1, 7);
        book.carry(-1, 0);
        check.sentence("Promise 19", "the latest verify that answered 2");
        check.same("taken again", book.verify(digest, 2, 1, 7), 2);
        check.same("the later value", book.shown(), 70);
        check.same("a value of 0", Books.holding(Books.forged(Books.node(0, 5, 0)))
                .verify(Books.digestOver(Books.node(0, 5, 0)), 1, 0, 5), 2);
        SealedBook zero = Books.with(5, 9);
        zero.put(5, 0);
        zero.commit();
        for (int v = 1; v <= 2; v++) {
            zero.prove(3, v, 5);
            zero.carry(-1, 0);
            zero.verify(zero.digest(3), 3, v, 5);
            check.same("of version " + v, zero.shown(), v == 1 ? 9 : 0);
        }
        twins.untouched("shown", SealedBook::shown);
    }

    private static void othersLeave(SealedBook book, int digest, int due) {
        book.prove(2, 1, 7);
        book.carry(-1, 0);
        check.same("refused", book.verify(digest + 1, 2, 1, 7), 0);
        check.same("after one refused by its digest", book.shown(), due);
        book.carry(0, 2);
        check.same("refused", book.verify(digest, 2, 1, 7), 0);
        check.same("after one refused by its bytes", book.shown(), due);
        book.carry(-1, 0);
        check.same("taken", book.verify(digest, 2, 1, 8), 1);
        check.same("after one without value", book.shown(), due);
        check.noKey("wrong", () -> book.verify(digest, 2, 2, 7));
        check.same("after a wrong question", book.shown(), due);
        book.prove(2, 0, 7);
        book.carry(-1, 0);
        check.same("the empty version", book.verify(digest, 2, 0, 7), 1);
        check.same("after the empty version", book.shown(), due);
        book.proveGrowth(1, 2);
        book.carry(-1, 0);
        check.yes("a growth", book.verifyGrowth(book.digest(1), 1, digest, 2));
        check.same("after a growth", book.shown(), due);
        check.no("no growth", book.verifyGrowth(book.digest(1), 1, digest, 2));
        check.same("after one refused", book.shown(), due);
    }

    private static void growths() {
        check.sentence("Promise 20", "The verifier, holding one digest of m versions and another one of n, takes its bytes"
                + " for a growth (m, n).");
        for (int n = 2; n <= 16; n++) {
            for (int m = 1; m < n; m++) {
                growth(m, n);
            }
        }
    }

    private static void growth(int m, int n) {
        String what = "verifyGrowth(.., " + m + ", .., " + n + ")";
        SealedBook book = filledBook();
        int one = book.digest(m);
        int other = book.digest(n);
        book.proveGrowth(m, n);
        List<Integer> bytes = Books.proofOf(book);
        check.yes(what, Books.grows(bytes, one, m, other, n));
        check.no(what + ", another digest of m", Books.grows(bytes, one ^ 1 << n, m, other, n));
        check.no(what + ", another digest of n", Books.grows(bytes, one, m, other ^ 1 << m, n));
        List<Integer> more = new ArrayList<>(bytes);
        more.add(0);
        check.no(what + ", one byte too many", Books.grows(more, one, m, other, n));
        for (int i = 0; i < bytes.size(); i++) {
            check.no(what + ", cut at " + i, Books.grows(bytes.subList(0, i), one, m, other, n));
            List<Integer> copy = new ArrayList<>(bytes);
            copy.set(i, copy.get(i) ^ 1 << i % 8);
            check.no(what + ", byte " + i + " harmed", Books.grows(copy, one, m, other, n));
        }
    }

    private static void growthGone() {
        check.sentence("Promise 20", "The bytes are gone then.");
        SealedBook book = new SealedBook();
        book.take(0, 2);
        check.no("refused", book.verifyGrowth(1, 1, 2, 2));
        check.same("gone when refused", book.verify(EMPTY, 1, 0, 0), 0);
        book.take(1, 1);
        book.take(3, 4);
        takenBytes("taken", book, 3);
        check.no("gone when taken", book.verifyGrowth(9, 1, Model.join(9, 3), 2));
        book.take(0, 2);
        check.same("only those taken since", book.verify(EMPTY, 1, 0, 0), 1);
        twins.untouchedBut("verifyGrowth leaves all but the bytes", twin -> twin.verifyGrowth(1, 2, 3, 4),
                twin -> twin.carry(-1, 0));
    }

    private static void wrongGrowths() {
        check.sentence("Promise 20", "IllegalArgumentException, changing nothing, when it is not 0 < m < n < 17.");
        int[][] wrong = {{0, 1}, {0, 2}, {0, 0}, {0, 16}, {0, 17}, {1, 1}, {16, 16}, {17, 17}, {2, 1}, {16, 15}, {1, 17},
            {16, 17}, {-1, 2}, {-1, 0}, {1, 0}, {1, -1}, {LEAST, 2}, {1, LEAST}, {1, MOST}, {LEAST, MOST}, {MOST, LEAST}};
        for (int[] row : wrong) {
            String what = "verifyGrowth(.., " + row[0] + ", .., " + row[1] + ")";
            SealedBook book = new SealedBook();
            book.take(0, 2);
            check.noKey(what, () -> book.verifyGrowth(EMPTY, row[0], EMPTY, row[1]));
            check.same("the bytes are there still after " + what, book.verify(EMPTY, 1, 0, 0), 1);
            twins.untouched(what, twin -> twin.verifyGrowth(EMPTY, row[0], EMPTY, row[1]));
        }
        check.no("1, 2", new SealedBook().verifyGrowth(EMPTY, 1, EMPTY, 2));
        check.no("1, 16", new SealedBook().verifyGrowth(EMPTY, 1, EMPTY, 16));
        check.no("15, 16", new SealedBook().verifyGrowth(EMPTY, 15, EMPTY, 16));
    }

    public static void main(String[] args) {
        take();
        takeRefused();
        fourHundred();
        carry();
        carriedLength();
        honest();
        harmed();
        valueOrNone();
        gone();
        wrongQuestions();
        shown();
        growths();
        growthGone();
        wrongGrowths();
        check.finish();
    }
}
