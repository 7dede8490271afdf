import java.util.ArrayList;
import java.util.List;

/** 'Terms', THE VERIFIER: a test for each sentence that names a boundary case. */
public final class TermsVerifierTest {
    private static final Check check = new Check();

    /** The answer to a proof (1, 0, key) of these chunks, the highest first, whose top the digest is over. */
    private static int forgery(int key, Model.Node... nodes) {
        return Books.verify(Books.forged(nodes), Books.digestOver(nodes[0]), 1, 0, key);
    }

    /** Ends in zeros, so that a reader who takes missing bytes for 0 would be content; top first. */
    private static Model.Node[] chainEndingInZeros(int levels) {
        Model.Node[] nodes = new Model.Node[levels];
        for (int level = 0; level < levels; level++) {
            int value = level == 0 ? 0 : nodes[levels - level].hash();
            nodes[levels - 1 - level] = Books.node(level, 3, 9, 7, value);
        }
        return nodes;
    }

    private static void missing() {
        check.sentence("Terms", "no byte may be missing");
        for (int levels = 0; levels <= 3; levels++) {
            Model.Node[] nodes = chainEndingInZeros(levels);
            List<Integer> bytes = Books.forged(nodes);
            int digest = levels == 0 ? Model.leaf(0, 0) : Books.digestOver(nodes[0]);
            check.same("all of them, levels " + levels, Books.verify(bytes, digest, 1, 0, 7), levels == 0 ? 1 : 2);
            for (int length = 0; length < bytes.size(); length++) {
                check.same("the first " + length + ", levels " + levels,
                        Books.verify(bytes.subList(0, length), digest, 1, 0, 7), 0);
            }
        }
        List<Integer> way = Books.bytes(1, 0, 0, 0, 0, 0);
        int digest = Model.join(Model.leaf(0, 0), 0);
        check.same("all, with a way", Books.verify(way, digest, 2, 0, 7), 1);
        for (int length = 0; length < way.size(); length++) {
            check.same("the first " + length + ", with a way", Books.verify(way.subList(0, length), digest, 2, 0, 7), 0);
        }
    }

    private static void tooMany() {
        check.sentence("Terms", "or too many");
        for (int levels = 0; levels <= 3; levels++) {
            Model.Node[] nodes = chainEndingInZeros(levels);
            List<Integer> bytes = Books.forged(nodes);
            int digest = levels == 0 ? Model.leaf(0, 0) : Books.digestOver(nodes[0]);
            for (int more = 1; more <= 8; more++) {
                bytes.add(0);
                check.same(more + " more, levels " + levels, Books.verify(bytes, digest, 1, 0, 7), 0);
            }
            while (bytes.size() < 400) {
                bytes.add(0);
            }
            check.same("400, levels " + levels, Books.verify(bytes, digest, 1, 0, 7), 0);
        }
    }

    private static void levels() {
        check.sentence("Terms", "the number of levels is at most 6");
        for (int levels = 1; levels <= 8; levels++) {
            Model.Node[] nodes = chainEndingInZeros(levels);
            check.same("levels " + levels, forgery(7, nodes), levels <= 6 ? 2 : 0);
        }
        List<Integer> none = Books.bytes(0, 0);
        check.same("levels 0", Books.verify(none, Model.leaf(0, 0), 1, 0, 7), 1);
        for (int levels : new int[] {7, 128, 255}) {
            none.set(1, levels);
            check.same("levels " + levels + " and no chunk", Books.verify(none, Model.leaf(0, 0), 1, 0, 7), 0);
        }
    }

    private static void items() {
        check.sentence("Terms", "of items in a chunk 1 .. 48");
        check.same("0", forgery(7, Books.row(0, 0)), 0);
        check.same("1", forgery(0, Books.row(0, 1)), 2);
        check.same("48", forgery(47, Books.row(0, 48)), 2);
        check.same("49", forgery(47, Books.row(0, 49)), 0);
        for (int count : new int[] {0, 1, 48, 49}) {
            Model.Node low = Books.row(0, count);
            int last = count == 0 ? 7 : Math.min(count - 1, 47);
            check.same(count + " below another", forgery(last, Books.node(1, last, low.hash()), low),
                    count == 1 || count == 48 ? 2 : 0);
        }
        Model.Node low = Books.node(0, 47, 1);
        int[] wide = new int[96];
        for (int key = 0; key < 48; key++) {
            wide[2 * key] = key;
        }
        wide[95] = low.hash();
        check.same("48 above another", forgery(47, Books.node(1, wide), low), 2);
        List<Integer> many = Books.forged(Books.node(0, 7, 7));
        many.set(2, 255);
        check.same("255 and one there", Books.verify(many, Books.digestOver(Books.node(0, 7, 7)), 1, 0, 7), 0);
        for (int count : new int[] {0, 49, 255}) {
            check.same(count + " and none there, the root being 0",
                    Books.verify(Books.bytes(0, 1, count), Model.leaf(0, 0), 1, 0, 7), 0);
        }
    }

    private static void keysRise() {
        check.sentence("Terms", "keys of a chunk rise");
        int[][] wrong = {{5, 5}, {5, 4}, {0, 0}, {47, 47}, {47, 0}, {5, 5, 6}, {5, 6, 6}, {6, 5, 7}, {1, 7, 6},
            {1, 2, 3, 3}, {1, 2, 3, 0}};
        for (int[] keys : wrong) {
            for (int key = 0; key < 48; key++) {
                check.same("keys from " + keys[0] + " to " + keys[keys.length - 1] + " for " + key,
                        forgery(key, withKeys(0, 9, keys)), 0);
            }
        }
        check.same("by one", forgery(5, withKeys(0, 9, 4, 5, 6)), 2);
        check.same("an equal one that is not hashed", withOneMore(5, withKeys(0, 9, 4, 5)), 0);
        check.same("a lower one that is not hashed", withOneMore(4, withKeys(0, 9, 3, 5)), 0);
        Model.Node low = withKeys(0, 9, 4, 5);
        check.same("above another", forgery(5, withKeys(1, low.hash(), 5, 7, 9), low), 2);
        check.same("above another, equal", forgery(5, withKeys(1, low.hash(), 5, 5), low), 0);
        check.same("above another, equal behind", forgery(5, withKeys(1, low.hash(), 5, 7, 7), low), 0);
        check.same("above another, falling behind", forgery(5, withKeys(1, low.hash(), 5, 7, 6), low), 0);
        Model.Node wrongLow = withKeys(0, 9, 5, 4, 6);
        check.same("below another, falling", forgery(6, withKeys(1, wrongLow.hash(), 6), wrongLow), 0);
        Model.Node equalLow = withKeys(0, 9, 6, 6);
        check.same("below another, equal", forgery(6, withKeys(1, equalLow.hash(), 6), equalLow), 0);
    }

    private static Model.Node withKeys(int level, int value, int... keys) {
        int[] items = new int[2 * keys.length];
        for (int i = 0; i < keys.length; i++) {
            items[2 * i] = keys[i];
            items[2 * i + 1] = value;
        }
        return Books.node(level, items);
    }

    /** The answer when the one chunk has an item of this key more than the digest is over. */
    private static int withOneMore(int key, Model.Node node) {
        List<Integer> bytes = Books.forged(node);
        bytes.set(2, bytes.get(2) + 1);
        bytes.addAll(Books.bytes(key, 0, 0, 0, 9));
        return Books.verify(bytes, Books.digestOver(node), 1, 0, 5);
    }

    private static void keysAreKeys() {
        check.sentence("Terms", "and are 0 .. 47");
        check.same("48 that is not hashed", withOneMore(48, withKeys(0, 9, 4, 5)), 0);
        check.same("255 that is not hashed", withOneMore(255, withKeys(0, 9, 4, 5)), 0);
        check.same("0", forgery(0, withKeys(0, 9, 0)), 2);
        check.same("47", forgery(47, withKeys(0, 9, 47)), 2);
        for (int bad : new int[] {48, 49, 127, 128, 255}) {
            for (int key : new int[] {0, 5, 47}) {
                check.same(bad + " for " + key, forgery(key, withKeys(0, 9, bad)), 0);
                check.same("5 and " + bad + " for " + key, forgery(key, withKeys(0, 9, 5, bad)), 0);
                Model.Node low = withKeys(0, 9, 5);
                check.same(bad + " above 5 for " + key, forgery(key, withKeys(1, low.hash(), 5, bad), low), 0);
                Model.Node wrongLow = withKeys(0, 9, 5, bad);
                check.same(bad + " below for " + key, forgery(key, withKeys(1, wrongLow.hash(), bad), wrongLow), 0);
            }
        }
    }

    private static void lastKeyBelow() {
        check.sentence("Terms", "below a chunk stands one whose last key is the chosen item's key");
        Model.Node low = withKeys(0, 9, 5, 7);
        check.same("it is", forgery(7, withKeys(1, low.hash(), 7, 20), low), 2);
        check.same("it is, for the last item", forgery(40, withKeys(1, low.hash(), 2, 7), low), 1);
        check.same("it is, for the first item not below", forgery(3, withKeys(1, low.hash(), 2, 7, 20), low), 1);
        check.same("above it", forgery(7, withKeys(1, low.hash(), 8, 20), low), 0);
        check.same("below it", forgery(5, withKeys(1, low.hash(), 6, 20), low), 0);
        check.same("the first key is", forgery(5, withKeys(1, low.hash(), 5, 20), low), 0);
        check.same("another item's key", forgery(8, withKeys(1, low.hash(), 7, 20), low), 0);
        check.same("another item's key, the one before being due", forgery(2, withKeys(1, low.hash(), 2, 7), low), 0);
        check.same("the last item's key, another being due", forgery(6, withKeys(1, low.hash(), 6, 7), low), 0);
        Model.Node middle = withKeys(1, low.hash(), 7, 20);
        check.same("in three levels", forgery(7, withKeys(2, middle.hash(), 20), middle, low), 2);
        check.same("not so in three levels", forgery(7, withKeys(2, middle.hash(), 21), middle, low), 0);
    }

    private static void hashBelow() {
        check.sentence("Terms", "and whose hash is its value");
        Model.Node low = withKeys(0, 9, 5, 7);
        for (int bit = 0; bit < 32; bit++) {
            check.same("bit " + bit + " is another", forgery(7, withKeys(1, low.hash() ^ 1 << bit, 7), low), 0);
        }
        check.same("the next item's value", forgery(7, Books.node(1, 7, 0, 20, low.hash()), low), 0);
        check.same("the hash of another level", forgery(7, withKeys(1, withKeys(1, 9, 5, 7).hash(), 7), low), 0);
        Model.Node middle = withKeys(1, low.hash(), 7);
        check.same("in three levels", forgery(7, withKeys(2, middle.hash(), 7), middle, low), 2);
        check.same("not so at the top", forgery(7, withKeys(2, middle.hash() + 1, 7), middle, low), 0);
        Model.Node wrong = withKeys(1, low.hash() + 1, 7);
        check.same("not so in the middle", forgery(7, withKeys(2, wrong.hash(), 7), wrong, low), 0);
    }

    private static void rootWithoutLevels() {
        check.sentence("Terms", "works out the root (0 without levels)");
        for (int v = 0; v < 16; v++) {
            List<Integer> seals = sealsFor(16, v, 77);
            List<Integer> bytes = wayBytes(seals);
            bytes.add(0);
            check.same("version " + v, Books.verify(bytes, Model.digestBy(seals, 0, 16, v), 16, v, 9), 1);
            check.same("another root of " + v, Books.verify(bytes, Model.digestBy(seals, 1, 16, v), 16, v, 9), 0);
        }
        SealedBook after = Books.holding(Books.forged(Books.node(0, 9, 90)));
        after.verify(Books.digestOver(Books.node(0, 9, 90)), 1, 0, 9);
        after.take(0, 2);
        check.same("after one with levels", after.verify(Model.leaf(0, 0), 1, 0, 9), 1);
    }

    private static List<Integer> sealsFor(int n, int v, int first) {
        List<Integer> seals = new ArrayList<>();
        for (int i = 0; i < Model.way(0, n, v).size(); i++) {
            seals.add(first * (i + 1) * 0x01010101);
        }
        return seals;
    }

    private static List<Integer> wayBytes(List<Integer> seals) {
        List<Integer> bytes = Books.bytes(seals.size());
        for (int seal : seals) {
            Model.addInt(bytes, seal);
        }
        return bytes;
    }

    /** Seals of 0 would not be missed by a reader who takes missing bytes for 0. */
    private static void wayLength() {
        check.sentence("Terms", "as many ints as a way of leaf v in n has");
        for (int n = 1; n <= 16; n++) {
            for (int v = 0; v < n; v++) {
                List<Integer> seals = sealsFor(n, v, 0);
                int due = seals.size();
                int digest = Model.digestBy(seals, 0, n, v);
                for (int count = 0; count <= 6; count++) {
                    List<Integer> bytes = new ArrayList<>(List.of(count));
                    for (int i = 0; i < 4 * count + 1; i++) {
                        bytes.add(0);
                    }
                    check.same(count + " for " + v + " in " + n, Books.verify(bytes, digest, n, v, 9),
                            count == due ? 1 : 0);
                    bytes.set(0, due);
                    check.same(count + " said to be as due for " + v + " in " + n,
                            Books.verify(bytes, digest, n, v, 9), count == due ? 1 : 0);
                }
            }
        }
        List<Integer> many = Books.bytes(255, 0);
        check.same("255", Books.verify(many, Model.leaf(0, 0), 1, 0, 9), 0);
    }

    private static void digest() {
        check.sentence("Terms", "and the digest must be that given");
        for (int n = 1; n <= 16; n++) {
            for (int v = 0; v < n; v++) {
                digest(n, v);
            }
        }
        List<Integer> zero = Books.ints(Model.mix(8, Model.leaf(0, 0)));
        zero.add(0);
        check.same("a digest of 0", Books.verify(zero, 0, 2, 0, 9), 1);
        check.same("not a digest of 0", Books.verify(zero, 1, 2, 0, 9), 0);
    }

    private static void digest(int n, int v) {
        String what = " for " + v + " in " + n;
        List<Integer> seals = sealsFor(n, v, -5);
        List<Integer> bytes = wayBytes(seals);
        bytes.add(1);
        Model.Node low = Books.node(0, 9, 90);
        Model.addNode(bytes, low);
        int digest = Model.digestBy(seals, low.hash(), n, v);
        check.same("it is" + what, Books.verify(bytes, digest, n, v, 9), 2);
        for (int bit = 0; bit < 32; bit++) {
            check.same("bit " + bit + " is another" + what, Books.verify(bytes, digest ^ 1 << bit, n, v, 9), 0);
        }
        check.same("0" + what, Books.verify(bytes, 0, n, v, 9), 0);
    }

    private static void growthLength() {
        check.sentence("Terms", "For a GROWTH: as many ints as it has");
        for (int n = 2; n <= 16; n++) {
            for (int m = 1; m < n; m++) {
                int due = Model.growth(0, n, m).size();
                int[] both = Model.digests(Books.bytes(new int[due]), 5, 0, n, m);
                for (int count = 0; count <= 7; count++) {
                    List<Integer> bytes = Books.ints(new int[count]);
                    check.same(count + " for " + m + ", " + n, grows(bytes, both, m, n), count == due ? 1 : 0);
                    bytes.set(0, due);
                    check.same(count + " said to be as due for " + m + ", " + n, grows(bytes, both, m, n),
                            count == due ? 1 : 0);
                }
            }
        }
    }

    private static int grows(List<Integer> bytes, int[] both, int m, int n) {
        return Books.grows(bytes, both[0], m, both[1], n) ? 1 : 0;
    }

    private static void growthBytes() {
        check.sentence("Terms", "no byte may be missing or too many");
        for (int m = 1; m < 7; m++) {
            int due = Model.growth(0, 7, m).size();
            int[] both = Model.digests(Books.bytes(new int[due]), 5, 0, 7, m);
            List<Integer> bytes = Books.ints(new int[due]);
            for (int length = 0; length < bytes.size(); length++) {
                check.same("the first " + length + " for " + m, grows(bytes.subList(0, length), both, m, 7), 0);
            }
            for (int more = 1; more <= 4; more++) {
                bytes.add(0);
                check.same(more + " more for " + m, grows(bytes, both, m, 7), 0);
            }
        }
    }

    private static List<Integer> sealsOfGrowth(int m, int n) {
        List<Integer> seals = new ArrayList<>();
        for (int i = 0; i < Model.growth(0, n, m).size(); i++) {
            seals.add(-9 * (i + 1) * 0x01010101);
        }
        return seals;
    }

    private static void bothDigests() {
        check.sentence("Terms", "and both digests, worked out from them");
        for (int n = 2; n <= 16; n++) {
            for (int m = 1; m < n; m++) {
                List<Integer> bytes = wayBytes(sealsOfGrowth(m, n));
                int[] both = Model.digests(sealsOfGrowth(m, n), 5, 0, n, m);
                check.same("as due for " + m + ", " + n, grows(bytes, both, m, n), 1);
                for (int bit = 0; bit < 32; bit++) {
                    int one = both[0] ^ 1 << bit;
                    int other = both[1] ^ 1 << bit;
                    check.no("bit " + bit + " of one for " + m + ", " + n, Books.grows(bytes, one, m, both[1], n));
                    check.no("bit " + bit + " of other for " + m + ", " + n, Books.grows(bytes, both[0], m, other, n));
                }
                check.no("the wrong way round for " + m + ", " + n, Books.grows(bytes, both[1], m, both[0], n));
            }
        }
    }

    private static void givenForM() {
        check.sentence("Terms", "(and, where PART gives nothing, the one given for m)");
        for (int one : new int[] {0, 1, -1, Books.LEAST, Books.MOST, 123456789}) {
            check.yes("1 of 2", Books.grows(Books.ints(7), one, 1, Model.join(one, 7), 2));
            check.yes("2 of 3", Books.grows(Books.ints(7), one, 2, Model.join(one, 7), 3));
            check.yes("4 of 8", Books.grows(Books.ints(7), one, 4, Model.join(one, 7), 8));
            check.yes("8 of 16", Books.grows(Books.ints(7), one, 8, Model.join(one, 7), 16));
            check.yes("1 of 3", Books.grows(Books.ints(7, 8), one, 1, Model.join(Model.join(one, 7), 8), 3));
            check.no("3 of 4, not the given one", Books.grows(Books.ints(7, 8, 9), one, 3,
                    Model.join(9, Model.join(one, 8)), 4));
        }
        check.yes("another one of 0", Books.grows(Books.ints(Model.mix(8, 5)), 5, 1, 0, 2));
        check.yes("3 of 4", Books.grows(Books.ints(7, 8, 9), Model.join(9, 7), 3, Model.join(9, Model.join(7, 8)), 4));
    }

    public static void main(String[] args) {
        missing();
        tooMany();
        levels();
        items();
        keysRise();
        keysAreKeys();
        lastKeyBelow();
        hashBelow();
        rootWithoutLevels();
        wayLength();
        digest();
        growthLength();
        growthBytes();
        bothDigests();
        givenForM();
        check.finish();
    }
}
