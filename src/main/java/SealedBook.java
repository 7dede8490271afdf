import java.util.Arrays;
import java.util.NoSuchElementException;

/**
 * A book of values by keys in versions, sealed by hashes, that gives proofs as
 * bytes, together with a verifier that trusts nothing but a digest.
 */
public final class SealedBook {
    public static final int NONE = -1;

    private static final int KEYS = 48;
    private static final int VERSIONS = 16;
    private static final int MOST_LEVELS = 6;
    private static final int MOST_BYTES = 400;
    private static final int LATEST_FAILURE = 40;

    /** 512 calls with at most 17 chunks in each tree can never write more. */
    private static final int MOST_CHUNKS = 512 * 17;

    private static final int CHUNK_SEED = 6;
    private static final int LEAF_SEED = 7;
    private static final int SEAL_SEED = 8;
    private static final int CUT_SEED = 9;
    private static final int CUT_END = 5;

    private final Store store;
    private final History history;
    private final Transaction transaction;
    private final Row row;
    private final Prover prover;
    private final Verifier verifier;

    public SealedBook() {
        store = new Store();
        history = new History();
        transaction = new Transaction();
        row = new Row();
        prover = new Prover();
        verifier = new Verifier();
    }

    public void put(int key, int value) throws IllegalArgumentException, IllegalStateException {
        requireKey(key);
        requireRoom();
        transaction.set(key, value);
    }

    public boolean delete(int key) throws IllegalArgumentException, IllegalStateException {
        requireKey(key);
        requireRoom();
        return transaction.unset(key);
    }

    public int commit() throws IllegalStateException {
        requireRoom();
        transaction.listInto(row);
        if (!store.keepTree(row) || !store.write()) {
            rollback();
            return NONE;
        }
        history.add(row.top());
        return history.size - 1;
    }

    public void rollback() {
        transaction.load(history.tops[history.size - 1]);
    }

    public boolean fail(int n) {
        if (n < 1 || n > LATEST_FAILURE) {
            return false;
        }
        store.untilFailure = n;
        return true;
    }

    public int chunks() {
        return store.size;
    }

    public int versions() {
        return history.size;
    }

    public int get(int v, int key) throws IllegalArgumentException, NoSuchElementException {
        if (v != NONE) {
            requireVersion(v);
        }
        requireKey(key);
        if (v == NONE) {
            requireValue(transaction.has[key]);
            return transaction.values[key];
        }
        Chunk bottom = bottomFor(history.tops[v], key);
        requireValue(holds(bottom, key));
        return valueIn(bottom, key);
    }

    public int range(int v, int low, int high) throws IllegalArgumentException {
        requireVersion(v);
        int last = Math.min(high, KEYS - 1);
        int count = 0;
        for (int key = Math.max(low, 0); key <= last; key++) {
            if (holds(bottomFor(history.tops[v], key), key)) {
                count++;
            }
        }
        return count;
    }

    public int root(int v) throws IllegalArgumentException {
        requireVersion(v);
        return history.rootOf(v);
    }

    public int digest(int n) throws IllegalArgumentException {
        require(n >= 0 && n <= history.size);
        return n == 0 ? 0 : history.seal(0, n);
    }

    public int prove(int n, int v, int key) throws IllegalArgumentException {
        require(n <= history.size && v >= 0 && v < n);
        requireKey(key);
        prover.makeProof(history, n, v, key);
        return prover.bytes.size;
    }

    public int proveGrowth(int m, int n) throws IllegalArgumentException {
        require(m > 0 && m < n && n <= history.size);
        prover.makeGrowth(history, m, n);
        return prover.bytes.size;
    }

    public int proof(int i) {
        return prover.bytes.at(i);
    }

    public boolean take(int word, int n) {
        if (n < 1 || n > 4 || verifier.bytes.size + n > MOST_BYTES) {
            return false;
        }
        verifier.bytes.append(word, n);
        return true;
    }

    public int carry(int i, int mask) {
        verifier.bytes.become(prover.bytes);
        verifier.bytes.flip(i, mask);
        return verifier.bytes.size;
    }

    public int verify(int digest, int n, int v, int key) throws IllegalArgumentException {
        require(n >= 1 && n <= VERSIONS && v >= 0 && v < n);
        requireKey(key);
        boolean taken = verifier.takesProof(digest, n, v, key);
        verifier.bytes.clear();
        if (!taken) {
            return 0;
        }
        return verifier.noteValue(key) ? 2 : 1;
    }

    public int shown() {
        return verifier.noted;
    }

    public boolean verifyGrowth(int one, int m, int other, int n) throws IllegalArgumentException {
        require(m > 0 && m < n && n <= VERSIONS);
        boolean taken = verifier.takesGrowth(one, m, other, n);
        verifier.bytes.clear();
        return taken;
    }

    private void requireRoom() {
        if (history.size >= VERSIONS) {
            throw new IllegalStateException("there are 16 versions already");
        }
    }

    private void requireVersion(int v) {
        require(v >= 0 && v < history.size);
    }

    private static void requireKey(int key) {
        require(key >= 0 && key < KEYS);
    }

    private static void require(boolean allowed) {
        if (!allowed) {
            throw new IllegalArgumentException("no such key, version or number of versions");
        }
    }

    private static void requireValue(boolean present) {
        if (!present) {
            throw new NoSuchElementException("the key has no value");
        }
    }

    private static int mix(int h, int x) {
        int g = (h ^ x) * 73244475;
        return g ^ (g >>> 15);
    }

    private static int leafOf(int v, int root) {
        return mix(mix(LEAF_SEED, v), root);
    }

    private static int join(int first, int rest) {
        return mix(mix(SEAL_SEED, first), rest);
    }

    /** The greatest power of 2 below count. */
    private static int half(int count) {
        int half = 1;
        while (half * 2 < count && half < VERSIONS) {
            half *= 2;
        }
        return half;
    }

    private static boolean endsChunk(int level, int key) {
        return (mix(mix(mix(CUT_SEED, level), key), CUT_END) & 3) == 0;
    }

    /** The chunk of level 0 where key stands if it stands anywhere; null without a tree. */
    private static Chunk bottomFor(Chunk top, int key) {
        Chunk bottom = null;
        for (Chunk chunk = top; chunk != null; chunk = chunk.under(key)) {
            bottom = chunk;
        }
        return bottom;
    }

    private static boolean holds(Chunk bottom, int key) {
        return bottom != null && bottom.keys[bottom.placeFor(key)] == key;
    }

    private static int valueIn(Chunk bottom, int key) {
        return bottom == null ? 0 : bottom.values[bottom.placeFor(key)];
    }

    /** Never changes once it is made, so that any number of versions may share it. */
    private static final class Chunk {
        final int level;
        final int hash;
        final int[] keys;
        final int[] values;

        /** The chunk under each item; at level 0 there is none under any. */
        final Chunk[] below;

        /** The one that came onto the same shelf of the store before this one. */
        final Chunk older;

        Chunk(Row row, int level, int from, int to, int hash, Chunk older) {
            this.level = level;
            this.hash = hash;
            this.older = older;
            keys = Arrays.copyOfRange(row.keys, from, to);
            values = Arrays.copyOfRange(row.values, from, to);
            below = new Chunk[to - from];
            for (int i = 0; i < below.length; i++) {
                below[i] = row.below[from + i];
            }
        }

        /** The place of the first item with a key not below this one, or of the last item. */
        int placeFor(int key) {
            int place = 0;
            while (place < keys.length - 1 && keys[place] < key) {
                place++;
            }
            return place;
        }

        Chunk under(int key) {
            return below[placeFor(key)];
        }
    }

    /** The items of the level that a commit works on. */
    private static final class Row {
        final int[] keys = new int[KEYS];
        final int[] values = new int[KEYS];
        final Chunk[] below = new Chunk[KEYS];
        int size = 0;

        void set(int place, int key, int value, Chunk under) {
            keys[place] = key;
            values[place] = value;
            below[place] = under;
        }

        /** The chunk over all items, once the row has gone through every level. */
        Chunk top() {
            return size == 0 ? null : below[0];
        }

        int hashOf(int level, int from, int to) {
            int hash = mix(CHUNK_SEED, level);
            for (int i = from; i < to; i++) {
                hash = mix(mix(hash, keys[i]), values[i]);
            }
            return hash;
        }

        /**
         * Looks at the chunks below too: other chunks can have the same hash,
         * and then the items over them are the same.
         */
        boolean matches(Chunk chunk, int from, int to) {
            if (chunk.keys.length != to - from) {
                return false;
            }
            for (int i = from; i < to; i++) {
                int place = i - from;
                if (chunk.keys[place] != keys[i]
                        || chunk.values[place] != values[i]
                        || chunk.below[place] != below[i]) {
                    return false;
                }
            }
            return true;
        }
    }

    /** All chunks ever written, each once, and the count of writes up to one that fails. */
    private static final class Store {
        /** By last key, so that looking a chunk up passes few others. */
        private final Chunk[] shelves = new Chunk[KEYS];

        int size = 0;

        /** 0 when no write is to fail. */
        int untilFailure = 0;

        /** Turns the row into one item over the top chunk; false when a write failed. */
        boolean keepTree(Row row) {
            boolean more = row.size > 0;
            for (int level = 0; more && level < MOST_LEVELS; level++) {
                if (!keepLevel(row, level)) {
                    return false;
                }
                more = row.size > 1;
            }
            return true;
        }

        /**
         * The next level's items go into the same row: a chunk takes the place of
         * one of its own items or an earlier one, so none is lost before it is read.
         */
        private boolean keepLevel(Row row, int level) {
            int kept = 0;
            int from = 0;
            for (int i = 0; i < row.size; i++) {
                int last = row.keys[i];
                if (i == row.size - 1 || endsChunk(level, last)) {
                    Chunk chunk = keep(row, level, from, i + 1);
                    if (chunk == null) {
                        return false;
                    }
                    row.set(kept, last, chunk.hash, chunk);
                    kept++;
                    from = i + 1;
                }
            }
            row.size = kept;
            return true;
        }

        private Chunk keep(Row row, int level, int from, int to) {
            int hash = row.hashOf(level, from, to);
            int shelf = row.keys[to - 1];
            for (Chunk chunk = shelves[shelf]; chunk != null; chunk = chunk.older) {
                if (chunk.hash == hash && chunk.level == level && row.matches(chunk, from, to)) {
                    return chunk;
                }
            }
            if (size >= MOST_CHUNKS || !write()) {
                return null;
            }
            shelves[shelf] = new Chunk(row, level, from, to, hash, shelves[shelf]);
            size++;
            return shelves[shelf];
        }

        boolean write() {
            if (untilFailure == 0) {
                return true;
            }
            untilFailure--;
            return untilFailure > 0;
        }
    }

    private static final class Transaction {
        final boolean[] has = new boolean[KEYS];
        final int[] values = new int[KEYS];

        void set(int key, int value) {
            has[key] = true;
            values[key] = value;
        }

        boolean unset(int key) {
            boolean had = has[key];
            has[key] = false;
            return had;
        }

        void load(Chunk top) {
            for (int key = 0; key < KEYS; key++) {
                Chunk bottom = bottomFor(top, key);
                has[key] = holds(bottom, key);
                values[key] = valueIn(bottom, key);
            }
        }

        void listInto(Row row) {
            int size = 0;
            for (int key = 0; key < KEYS; key++) {
                if (has[key]) {
                    row.set(size, key, values[key], null);
                    size++;
                }
            }
            row.size = size;
        }
    }

    private static final class History {
        /** The top chunk of each version; null for one without items. */
        final Chunk[] tops = new Chunk[VERSIONS];

        /** Version 0 is there from the start. */
        int size = 1;

        void add(Chunk top) {
            if (size < VERSIONS) {
                tops[size] = top;
                size++;
            }
        }

        int rootOf(int v) {
            return tops[v] == null ? 0 : tops[v].hash;
        }

        private int seal(int from, int count) {
            if (count < 2) {
                return leafOf(from, rootOf(from));
            }
            int half = half(count);
            return join(seal(from, half), seal(from + half, count - half));
        }
    }

    /**
     * A proof never outgrows this row: the cuts of the 48 keys leave at most
     * 3 levels, with chunks of at most 10, 11 and 3 items, which is 141 bytes.
     */
    private static final class Bytes {
        private final int[] cells = new int[MOST_BYTES];
        int size = 0;

        void clear() {
            size = 0;
        }

        int at(int i) {
            return i >= 0 && i < size ? cells[i] : NONE;
        }

        /** Appends the lowest bytes of word, the highest of them first. */
        void append(int word, int count) {
            for (int shift = 8 * (count - 1); shift >= 0; shift -= 8) {
                if (size < MOST_BYTES) {
                    cells[size] = (word >>> shift) & 255;
                    size++;
                }
            }
        }

        void appendByte(int value) {
            append(value, 1);
        }

        void appendInt(int value) {
            append(value, 4);
        }

        void become(Bytes other) {
            System.arraycopy(other.cells, 0, cells, 0, other.size);
            size = other.size;
        }

        void flip(int i, int mask) {
            if (i >= 0 && i < size) {
                cells[i] ^= mask & 255;
            }
        }

        /** For a row that is one byte and then ints: the byte tells how many ints. */
        void countInts() {
            cells[0] = (size - 1) / 4;
        }
    }

    private static final class Prover {
        /** The latest proof. */
        final Bytes bytes = new Bytes();

        void makeProof(History history, int n, int v, int key) {
            bytes.clear();
            bytes.appendByte(0);
            addWay(history, 0, n, v);
            bytes.countInts();
            Chunk top = history.tops[v];
            bytes.appendByte(top == null ? 0 : top.level + 1);
            for (Chunk chunk = top; chunk != null; chunk = chunk.under(key)) {
                addChunk(chunk);
            }
        }

        void makeGrowth(History history, int m, int n) {
            bytes.clear();
            bytes.appendByte(0);
            addPart(history, 0, n, m);
            bytes.countInts();
        }

        private void addWay(History history, int from, int count, int v) {
            if (count < 2) {
                return;
            }
            int half = half(count);
            int middle = from + half;
            if (v < middle) {
                addWay(history, from, half, v);
                bytes.appendInt(history.seal(middle, count - half));
            } else {
                addWay(history, middle, count - half, v);
                bytes.appendInt(history.seal(from, half));
            }
        }

        private void addChunk(Chunk chunk) {
            bytes.appendByte(chunk.keys.length);
            for (int i = 0; i < chunk.keys.length; i++) {
                bytes.appendByte(chunk.keys[i]);
                bytes.appendInt(chunk.values[i]);
            }
        }

        private void addPart(History history, int from, int count, int m) {
            if (m >= count) {
                if (from > 0) {
                    bytes.appendInt(history.seal(from, count));
                }
                return;
            }
            int half = half(count);
            int middle = from + half;
            if (m <= half) {
                addPart(history, from, half, m);
                bytes.appendInt(history.seal(middle, count - half));
            } else {
                addPart(history, middle, count - half, m - half);
                bytes.appendInt(history.seal(from, half));
            }
        }
    }

    /** Knows its bytes and what a call gives it, and nothing of the book. */
    private static final class Verifier {
        final Bytes bytes = new Bytes();
        int noted = 0;

        /** Goes on behind the end too: so a missing byte is seen by where reading ends. */
        private int position = 0;

        private int levels = 0;
        private int root = 0;

        /** Of the chunk read last. */
        private int hash = 0;
        private int lastKey = NONE;
        private int chosenKey = NONE;
        private int chosenValue = 0;

        /** The seals of the first m versions and of all, over the part read last. */
        private int olderSeal = 0;
        private int wholeSeal = 0;

        boolean takesProof(int digest, int n, int v, int key) {
            position = 0;
            int tree = 1 + 4 * nextByte();
            position = tree;
            if (!readTree(key) || position != bytes.size) {
                return false;
            }
            // The leaf hangs on the root, so the tree has to be read before the way.
            position = 1;
            int seal = climb(leafOf(v, root), v, n);
            return position == tree && seal == digest;
        }

        /** Whether the proof taken last shows a value for key; keeps it if so. */
        boolean noteValue(int key) {
            if (levels == 0 || chosenKey != key) {
                return false;
            }
            noted = chosenValue;
            return true;
        }

        boolean takesGrowth(int one, int m, int other, int n) {
            position = 0;
            int end = 1 + 4 * nextByte();
            readPart(one, 0, n, m);
            return position == end && end == bytes.size
                    && olderSeal == one && wholeSeal == other;
        }

        private int nextByte() {
            int value = bytes.at(position);
            position++;
            return value == NONE ? 0 : value;
        }

        private int nextInt() {
            int value = 0;
            for (int i = 0; i < 4; i++) {
                value = (value << 8) | nextByte();
            }
            return value;
        }

        private boolean readTree(int key) {
            levels = nextByte();
            root = 0;
            if (levels > MOST_LEVELS) {
                return false;
            }
            for (int level = levels - 1; level >= 0; level--) {
                int overKey = chosenKey;
                int overValue = chosenValue;
                if (!readChunk(level, key)) {
                    return false;
                }
                if (level == levels - 1) {
                    root = hash;
                } else if (lastKey != overKey || hash != overValue) {
                    return false;
                }
            }
            return true;
        }

        private boolean readChunk(int level, int key) {
            int count = nextByte();
            if (count < 1 || count > KEYS) {
                return false;
            }
            hash = mix(CHUNK_SEED, level);
            lastKey = NONE;
            chosenKey = NONE;
            for (int i = 0; i < count; i++) {
                int itemKey = nextByte();
                int itemValue = nextInt();
                if (itemKey <= lastKey || itemKey >= KEYS) {
                    return false;
                }
                hash = mix(mix(hash, itemKey), itemValue);
                lastKey = itemKey;
                if (chosenKey < key) {
                    chosenKey = itemKey;
                    chosenValue = itemValue;
                }
            }
            return true;
        }

        /** The seal of count leaves, from the leaf at place and the ints beside its way. */
        private int climb(int leaf, int place, int count) {
            if (count < 2) {
                return leaf;
            }
            int half = half(count);
            if (place < half) {
                int first = climb(leaf, place, half);
                return join(first, nextInt());
            }
            int rest = climb(leaf, place - half, count - half);
            return join(nextInt(), rest);
        }

        private void readPart(int one, int from, int count, int m) {
            if (m >= count) {
                olderSeal = from == 0 ? one : nextInt();
                wholeSeal = olderSeal;
                return;
            }
            int half = half(count);
            if (m <= half) {
                readPart(one, from, half, m);
                wholeSeal = join(wholeSeal, nextInt());
            } else {
                readPart(one, from + half, count - half, m - half);
                int first = nextInt();
                olderSeal = join(first, olderSeal);
                wholeSeal = join(first, wholeSeal);
            }
        }
    }
}
