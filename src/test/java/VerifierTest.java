import java.util.ArrayList;
import java.util.Arrays;
import java.util.List;

/** Promises 16 to 20: take, carry, verify, shown, verifyGrowth. */
public final class VerifierTest {
    private static final Check check = new Check();

    /** A book of 16 versions; new for each proof, to keep to 512 calls. */
    private static SealedBook filledBook() {
        SealedBook book = new SealedBook();
        for (int v = 1; v < 16; v++) {
            for (int key = v % 3; key < 48; key += v == 9 ? 1 : 5) {
                book.put(key, v * 257 + key);
            }
            book.commit();
        }
        return book;
    }

    /** A new object that has taken these bytes, in words of changing length. */
    private static SealedBook holding(List<Integer> bytes) {
        SealedBook verifier = new SealedBook();
        int size = 1;
        int at = 0;
        while (at < bytes.size()) {
            size = Math.min(size % 4 + 1, bytes.size() - at);
            int word = 0x55555555;
            for (int i = 0; i < size; i++) {
                word = word << 8 | bytes.get(at + i);
            }
            check.yes("promise 16: taken", verifier.take(word, size));
            at += size;
        }
        return verifier;
    }

    private static int verify(List<Integer> bytes, int digest, int n, int v, int key) {
        return holding(bytes).verify(digest, n, v, key);
    }

    private static boolean grows(List<Integer> bytes, int one, int m, int other, int n) {
        return holding(bytes).verifyGrowth(one, m, other, n);
    }

    private static Model.Node node(int level, int... keysAndValues) {
        List<Integer> keys = new ArrayList<>();
        List<Integer> values = new ArrayList<>();
        for (int i = 0; i < keysAndValues.length; i += 2) {
            keys.add(keysAndValues[i]);
            values.add(keysAndValues[i + 1]);
        }
        return new Model.Node(level, keys, values, List.of());
    }

    /** A proof (1, 0, any key) of these chunks, the highest first. */
    private static List<Integer> forged(Model.Node... nodes) {
        List<Integer> bytes = new ArrayList<>(List.of(0, nodes.length));
        for (Model.Node node : nodes) {
            Model.addNode(bytes, node);
        }
        return bytes;
    }

    private static int digestOver(Model.Node top) {
        return Model.leaf(0, top.hash());
    }

    private static void take() {
        SealedBook x = new SealedBook();
        int digest = x.digest(1);
        for (int n : new int[] {0, -1, 5, Integer.MIN_VALUE, Integer.MAX_VALUE}) {
            check.no("promise 16: take(0, " + n + ")", x.take(0, n));
        }
        check.yes("promise 16: two bytes", x.take(0, 2));
        check.no("promise 16: no fifth", x.take(0, 5));
        check.same("promise 16: nothing but two bytes", x.verify(digest, 1, 0, 0), 1);
        x.take(0x01020000, 2);
        check.same("promise 16: the lowest bytes", x.verify(digest, 1, 0, 0), 1);
        x.take(0x7fffff00, 1);
        x.take(0xffffff00, 1);
        check.same("promise 16: appended", x.verify(digest, 1, 0, 0), 1);
        for (int n = 1; n <= 4; n++) {
            SealedBook y = new SealedBook();
            int taken = 0;
            while (taken + n <= 400) {
                check.yes("promise 16: up to 400 by " + n, y.take(0, n));
                taken += n;
            }
            check.no("promise 16: beyond 400 by " + n, y.take(0, n));
            check.same("promise 16: 400 by " + n, y.take(0, 1) ? 1 : 0, taken < 400 ? 1 : 0);
            y.verify(0, 1, 0, 0);
            check.yes("promise 16: room again", y.take(0, n));
        }
    }

    /** 400 bytes are all read: a proof of 6 levels that is just so long. */
    private static void fourHundred() {
        Model.Node low = row(0, 48);
        Model.Node[] nodes = new Model.Node[6];
        nodes[5] = low;
        int[] sizes = {48, 7, 7, 7, 7, 2};
        for (int level = 1; level < 6; level++) {
            int[] items = new int[2 * sizes[level]];
            for (int i = 0; i < sizes[level]; i++) {
                items[2 * i] = 48 - sizes[level] + i;
                items[2 * i + 1] = i;
            }
            items[items.length - 1] = nodes[6 - level].hash();
            nodes[5 - level] = node(level, items);
        }
        List<Integer> bytes = forged(nodes);
        check.same("promise 16: the length of a long proof", bytes.size(), 398);
        check.same("promise 18: a long proof", verify(bytes, digestOver(nodes[0]), 1, 0, 47), 2);
        bytes.add(0);
        bytes.add(0);
        SealedBook x = holding(bytes);
        check.no("promise 16: 401", x.take(0, 1));
        check.same("promise 18: with two bytes more", x.verify(digestOver(nodes[0]), 1, 0, 47), 0);
    }

    private static Model.Node row(int level, int count) {
        int[] items = new int[2 * count];
        for (int i = 0; i < count; i++) {
            items[2 * i] = i;
            items[2 * i + 1] = 1000 + i;
        }
        return node(level, items);
    }

    private static void carry() {
        SealedBook x = new SealedBook();
        check.same("promise 17: no proof", x.carry(0, 255), 0);
        int digest = x.digest(1);
        x.prove(1, 0, 7);
        x.take(9, 4);
        check.same("promise 17: two bytes", x.carry(2, 255), 2);
        check.same("promise 17: become those, none xored", x.verify(digest, 1, 0, 7), 1);
        check.same("promise 17: again", x.carry(-1, 255), 2);
        check.same("promise 17: none xored", x.verify(digest, 1, 0, 7), 1);
        x.carry(1, 0x7fffff00);
        check.same("promise 17: the lowest 8 bits count", x.verify(digest, 1, 0, 7), 1);
        x.carry(1, 1);
        check.same("promise 17: xored", x.verify(digest, 1, 0, 7), 0);
        check.same("promise 17: the proof itself stays", x.proof(1), 0);
        x.carry(Integer.MIN_VALUE, 1);
        check.same("promise 17: far before", x.verify(digest, 1, 0, 7), 1);
        x.carry(Integer.MAX_VALUE, 1);
        check.same("promise 17: far behind", x.verify(digest, 1, 0, 7), 1);
        x.carry(0, 0);
        x.take(0, 1);
        check.same("promise 17: taken behind it", x.verify(digest, 1, 0, 7), 0);
        x.put(1, 0x12345678);
        x.commit();
        int length = x.prove(2, 1, 1);
        x.carry(length - 1, 0x799);
        int hash = Model.mix(Model.mix(Model.mix(6, 0), 1), 0x12345678 ^ 0x99);
        int seal = Model.join(Model.leaf(0, 0), Model.leaf(1, hash));
        check.same("promise 17: another value", x.verify(seal, 2, 1, 1), 2);
        check.same("promise 17: the byte at i is xored", x.shown(), 0x12345678 ^ 0x99);
        check.same("promise 17: a growth too", x.proveGrowth(1, 2), x.carry(0, 0));
        check.yes("promise 17: as it is", x.verifyGrowth(digest, 1, x.digest(2), 2));
    }

    private static void honest() {
        for (int n = 1; n <= 16; n++) {
            for (int v = 0; v < n; v++) {
                for (int key = (n + v) % 5; key < 48; key += 5) {
                    honest(n, v, key);
                }
            }
        }
    }

    private static void honest(int n, int v, int key) {
        String what = "promise 18: verify(.., " + n + ", " + v + ", " + key + ")";
        SealedBook book = filledBook();
        book.prove(n, v, key);
        List<Integer> bytes = ProofTest.bytesOf(book);
        int digest = book.digest(n);
        boolean there = book.range(v, key, key) == 1;
        SealedBook verifier = holding(bytes);
        check.same(what, verifier.verify(digest, n, v, key), there ? 2 : 1);
        check.same("promise 19: shown", verifier.shown(), there ? book.get(v, key) : 0);
        check.same(what + " without bytes", verifier.verify(digest, n, v, key), 0);
        check.same(what + ", another digest", verify(bytes, digest ^ 1 << key % 32, n, v, key), 0);
        for (int other = 0; other < 16; other++) {
            if (other != n && other > v) {
                boolean alike = sides(other, v).equals(sides(n, v));
                check.same(what + " as of " + other, verify(bytes, digest, other, v, key),
                        !alike ? 0 : there ? 2 : 1);
            }
            if (other != v && other < n) {
                check.same(what + " as version " + other, verify(bytes, digest, n, other, key), 0);
            }
        }
    }

    /** On which sides of leaf v the parts beside it lie: a digest tells nothing else of n. */
    private static String sides(int n, int v) {
        StringBuilder sides = new StringBuilder();
        for (int[] part : Model.way(0, n, v)) {
            sides.append(part[0] < v ? 'a' : 'b');
        }
        return sides.toString();
    }

    private static void harmed() {
        int[][] which = {{1, 0, 3}, {2, 1, 1}, {7, 6, 20}, {16, 9, 30}, {16, 15, 47}, {11, 10, 0}};
        for (int[] w : which) {
            SealedBook book = filledBook();
            int length = book.prove(w[0], w[1], w[2]);
            int digest = book.digest(w[0]);
            List<Integer> bytes = ProofTest.bytesOf(book);
            check.same("promise 13: all bytes are there", bytes.size(), length);
            for (int i = 0; i < length; i++) {
                for (int bit = 1; bit < 256; bit *= 2) {
                    List<Integer> copy = new ArrayList<>(bytes);
                    copy.set(i, copy.get(i) ^ bit);
                    check.same("promise 18: byte " + i + " xor " + bit, verify(copy, digest, w[0], w[1], w[2]), 0);
                }
                check.same("promise 18: cut at " + i, verify(bytes.subList(0, i), digest, w[0], w[1], w[2]), 0);
            }
            for (int more = 0; more < 3; more++) {
                List<Integer> copy = new ArrayList<>(bytes);
                copy.add(more);
                check.same("promise 18: one too many", verify(copy, digest, w[0], w[1], w[2]), 0);
            }
        }
    }

    private static void forgeries() {
        Model.Node low = node(0, 0, 5, 4, 6, 9, 7);
        int digest = digestOver(low);
        check.same("promise 18: cuts are not looked at", verify(forged(low), digest, 1, 0, 4), 2);
        check.same("promise 18: first item", verify(forged(low), digest, 1, 0, 0), 2);
        check.same("promise 18: last item", verify(forged(low), digest, 1, 0, 9), 2);
        check.same("promise 18: between items", verify(forged(low), digest, 1, 0, 5), 1);
        check.same("promise 18: behind them", verify(forged(low), digest, 1, 0, 47), 1);
        check.same("promise 18: 48 items", verify(forged(row(0, 48)), digestOver(row(0, 48)), 1, 0, 47), 2);
        Model.Node[] bad = {row(0, 0), row(0, 49), node(0, 3, 1, 3, 2), node(0, 4, 1, 3, 2), node(0, 48, 1),
            node(0, 1, 1, 48, 1), node(0, 255, 1), node(0, 0, 1, 0, 1), node(0, 5, 1, 6, 1, 5, 1)};
        for (Model.Node one : bad) {
            for (int key : new int[] {0, 3, 4, 5, 6, 47}) {
                check.same("promise 18: " + one.text() + " for " + key, verify(forged(one), digestOver(one), 1, 0, key), 0);
            }
        }
        List<Integer> short1 = forged(low);
        short1.set(2, 2);
        check.same("promise 18: an item more than it says", verify(short1, digest, 1, 0, 4), 0);
        Model.Node cutOff = node(0, 0, 5, 4, 0x0600);
        List<Integer> zero = forged(cutOff);
        zero.remove(zero.size() - 1);
        check.same("promise 18: a missing byte is not 0", verify(zero, digestOver(cutOff), 1, 0, 4), 0);
        check.same("promise 18: level 0 is not level 1",
                verify(forged(low), digestOver(node(1, 0, 5, 4, 6, 9, 7)), 1, 0, 4), 0);
    }

    private static void chains() {
        Model.Node low = node(0, 3, 33, 9, 99);
        Model.Node fits = node(1, 1, 11, 9, low.hash(), 20, 22);
        int digest = digestOver(fits);
        check.same("promise 18: two levels", verify(forged(fits, low), digest, 1, 0, 9), 2);
        check.same("promise 18: two levels, between", verify(forged(fits, low), digest, 1, 0, 4), 1);
        check.same("promise 18: the item for 1 is another", verify(forged(fits, low), digest, 1, 0, 1), 0);
        check.same("promise 18: the item for 10 is another", verify(forged(fits, low), digest, 1, 0, 10), 0);
        check.same("promise 18: the lower one is missing", verify(forged(fits), digest, 1, 0, 9), 0);
        check.same("promise 18: none may be behind", verify(forged(fits, low, low), digest, 1, 0, 9), 0);
        Model.Node last = node(1, 1, 11, 9, low.hash());
        check.same("promise 18: behind the last item", verify(forged(last, low), digestOver(last), 1, 0, 40), 1);
        Model.Node otherKey = node(1, 1, 11, 8, low.hash(), 20, 22);
        check.same("promise 18: another last key", verify(forged(otherKey, low), digestOver(otherKey), 1, 0, 3), 0);
        Model.Node otherHash = node(1, 1, 11, 9, low.hash() + 1, 20, 22);
        check.same("promise 18: another hash", verify(forged(otherHash, low), digestOver(otherHash), 1, 0, 9), 0);
        Model.Node wrongLevel = node(1, 9, node(1, 3, 33, 9, 99).hash());
        check.same("promise 18: the hash tells the level", verify(forged(wrongLevel, low), digestOver(wrongLevel), 1, 0, 9), 0);
        for (int levels = 1; levels <= 8; levels++) {
            Model.Node[] nodes = new Model.Node[levels];
            nodes[levels - 1] = node(0, 7, 70);
            for (int level = 1; level < levels; level++) {
                nodes[levels - 1 - level] = node(level, 7, nodes[levels - level].hash());
            }
            check.same("promise 18: levels " + levels,
                    verify(forged(nodes), digestOver(nodes[0]), 1, 0, 7), levels <= 6 ? 2 : 0);
        }
    }

    private static void ways() {
        int leaf = Model.leaf(0, 0);
        List<Integer> none = new ArrayList<>(List.of(0, 0));
        check.same("promise 18: of one version", verify(none, leaf, 1, 0, 5), 1);
        List<Integer> one = new ArrayList<>(List.of(1, 0, 0, 0, 3, 0));
        check.same("promise 18: of two versions", verify(one, Model.join(leaf, 3), 2, 0, 5), 1);
        check.same("promise 18: the other of two", verify(one, Model.join(3, Model.leaf(1, 0)), 2, 1, 5), 1);
        check.same("promise 18: an int too many", verify(one, leaf, 1, 0, 5), 0);
        check.same("promise 18: an int too many for its half", verify(one, Model.join(leaf, 3), 1, 0, 5), 0);
        check.same("promise 18: an int too few", verify(none, Model.join(leaf, 0), 2, 0, 5), 0);
        check.same("promise 18: last of three", verify(one, Model.join(3, Model.leaf(2, 0)), 3, 2, 5), 1);
        List<Integer> uncounted = new ArrayList<>(List.of(0, 0, 0, 0, 0, 0));
        check.same("promise 18: an int that is not counted", verify(uncounted, Model.join(leaf, 0), 2, 0, 5), 0);
        check.same("promise 18: the leaf tells the version", verify(none, Model.leaf(1, 0), 1, 0, 5), 0);
    }

    private static void wrongQuestions() {
        SealedBook x = new SealedBook();
        int digest = x.digest(1);
        x.take(0, 2);
        int[][] wrong = {{0, 0, 0}, {17, 0, 0}, {-1, 0, 0}, {1, 1, 0}, {1, -1, 0}, {1, 0, 48}, {1, 0, -1}, {16, 16, 0},
            {Integer.MIN_VALUE, 0, 0}, {Integer.MAX_VALUE, 0, 0}, {1, Integer.MIN_VALUE, 0}, {-1, -2, 0},
            {1, Integer.MAX_VALUE, 0}, {1, 0, Integer.MIN_VALUE}, {1, 0, Integer.MAX_VALUE}};
        for (int[] w : wrong) {
            check.noKey("promise 18: verify(.., " + w[0] + ", " + w[1] + ", " + w[2] + ")",
                    () -> x.verify(digest, w[0], w[1], w[2]));
        }
        int[][] wrongGrowth = {{0, 1}, {0, 2}, {1, 1}, {16, 16}, {2, 1}, {1, 17}, {16, 17}, {-1, 2}, {1, 0},
            {Integer.MIN_VALUE, 2}, {1, Integer.MAX_VALUE}, {Integer.MAX_VALUE, Integer.MIN_VALUE}};
        for (int[] w : wrongGrowth) {
            check.noKey("promise 20: verifyGrowth(.., " + w[0] + ", .., " + w[1] + ")",
                    () -> x.verifyGrowth(digest, w[0], digest, w[1]));
        }
        check.same("promises 18, 20: the bytes are there still", x.verify(digest, 1, 0, 0), 1);
        check.same("promise 18: and gone then", x.verify(digest, 1, 0, 0), 0);
        x.take(0, 2);
        check.same("promise 18: refused", x.verify(digest + 1, 1, 0, 0), 0);
        check.same("promise 18: gone when refused", x.verify(digest, 1, 0, 0), 0);
        x.take(0, 2);
        check.no("promise 20: refused", x.verifyGrowth(1, 1, 2, 2));
        check.same("promise 20: gone when refused", x.verify(digest, 1, 0, 0), 0);
        int other = Model.join(digest, 3);
        x.take(1, 1);
        x.take(3, 4);
        check.yes("promise 20: taken", x.verifyGrowth(digest, 1, other, 2));
        check.no("promise 20: gone when taken", x.verifyGrowth(digest, 1, other, 2));
    }

    private static void shown() {
        SealedBook x = new SealedBook();
        check.same("promise 19: 0 before", x.shown(), 0);
        x.put(5, -50);
        x.put(7, 70);
        x.commit();
        int digest = x.digest(2);
        x.prove(2, 1, 5);
        check.same("promise 19: prove shows nothing", x.shown(), 0);
        x.carry(-1, 0);
        check.same("promise 19: taken", x.verify(digest, 2, 1, 5), 2);
        check.same("promise 19: the value", x.shown(), -50);
        x.carry(-1, 0);
        check.same("promise 19: no value", x.verify(digest, 2, 1, 6), 1);
        check.same("promise 19: stays with no value", x.shown(), -50);
        x.carry(-1, 0);
        check.same("promise 19: refused", x.verify(digest + 1, 2, 1, 7), 0);
        check.same("promise 19: stays when refused", x.shown(), -50);
        check.noKey("promise 19: wrong", () -> x.verify(digest, 2, 2, 7));
        x.carry(-1, 0);
        check.no("promise 19: a growth", x.verifyGrowth(1, 1, 2, 2));
        check.same("promise 19: stays with others", x.shown(), -50);
        x.carry(-1, 0);
        check.same("promise 19: taken again", x.verify(digest, 2, 1, 7), 2);
        check.same("promise 19: the later value", x.shown(), 70);
        x.prove(2, 0, 7);
        x.carry(-1, 0);
        check.same("promise 18: the empty version", x.verify(digest, 2, 0, 7), 1);
        check.same("promise 19: stays with the empty version", x.shown(), 70);
    }

    private static void growths() {
        for (int n = 2; n <= 16; n++) {
            for (int m = 1; m < n; m++) {
                String what = "promise 20: verifyGrowth(.., " + m + ", .., " + n + ")";
                SealedBook book = filledBook();
                int one = book.digest(m);
                int other = book.digest(n);
                book.proveGrowth(m, n);
                List<Integer> bytes = ProofTest.bytesOf(book);
                check.yes(what, grows(bytes, one, m, other, n));
                check.no(what + ", another digest of m", grows(bytes, one ^ 1 << n, m, other, n));
                check.no(what + ", another digest of n", grows(bytes, one, m, other ^ 1 << m, n));
                List<Integer> more = new ArrayList<>(bytes);
                more.add(0);
                check.no(what + ", one byte too many", grows(more, one, m, other, n));
                for (int i = 0; i < bytes.size(); i++) {
                    check.no(what + ", cut at " + i, grows(bytes.subList(0, i), one, m, other, n));
                    List<Integer> copy = new ArrayList<>(bytes);
                    copy.set(i, copy.get(i) ^ 1 << i % 8);
                    check.no(what + ", byte " + i + " harmed", grows(copy, one, m, other, n));
                }
            }
        }
    }

    /** Bytes that fit one of the digests only, or are miscounted. */
    private static void forgedGrowths() {
        List<Integer> three = new ArrayList<>(List.of(3));
        for (int seal : new int[] {1, 2, 4}) {
            Model.addInt(three, seal);
        }
        int older = Model.join(4, 1);
        int whole = Model.join(4, Model.join(1, 2));
        check.yes("promise 20: 3 of 4", grows(three, older, 3, whole, 4));
        check.no("promise 20: only the whole fits", grows(three, older + 1, 3, whole, 4));
        check.no("promise 20: only the older fits", grows(three, older, 3, whole + 1, 4));
        List<Integer> miscounted = new ArrayList<>(three);
        for (int count : Arrays.asList(0, 2, 4, 255)) {
            miscounted.set(0, count);
            check.no("promise 20: counted as " + count, grows(miscounted, older, 3, whole, 4));
        }
        List<Integer> four = new ArrayList<>(three);
        four.set(0, 4);
        Model.addInt(four, 0);
        check.no("promise 20: an int too many", grows(four, older, 3, whole, 4));
        List<Integer> zero = new ArrayList<>(List.of(1, 0, 0, 0));
        check.no("promise 20: a missing byte is not 0", grows(zero, 9, 2, Model.join(9, 0), 3));
        zero.add(0);
        check.yes("promise 20: the given digest serves where nothing is given", grows(zero, 9, 2, Model.join(9, 0), 3));
    }

    public static void main(String[] args) {
        take();
        fourHundred();
        carry();
        honest();
        harmed();
        forgeries();
        chains();
        ways();
        wrongQuestions();
        shown();
        growths();
        forgedGrowths();
        check.finish();
    }
}
