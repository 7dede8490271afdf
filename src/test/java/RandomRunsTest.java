import java.util.Random;

/** Runs of 512 calls with every call of the face, each answer compared with the model's. */
public final class RandomRunsTest {
    private static final int RUNS = 400;
    private static final int CALLS = 512;

    private final Random random;
    private final SealedBook book = new SealedBook();
    private final Model model = new Model();

    /** What the latest proof was made for, so that most verifications ask for just that. */
    private int n = 1;
    private int v = 0;
    private int m = 1;
    private int key = 0;
    private boolean growth = false;

    /** How many keys of 48 have values from the start. */
    private int dense;

    private RandomRunsTest(long seed) {
        random = new Random(seed);
        dense = random.nextInt(49);
    }

    private int upTo(int most) {
        return random.nextInt(most + 1);
    }

    private boolean seldom() {
        return random.nextInt(12) == 0;
    }

    private int someKey() {
        return seldom() ? random.nextInt(54) - 3 : upTo(47);
    }

    private int someValue() {
        return random.nextBoolean() ? random.nextInt() : upTo(2);
    }

    private int someVersion() {
        return seldom() ? random.nextInt(20) - 2 : random.nextInt(model.versions());
    }

    private int near(int x) {
        return seldom() ? x + random.nextInt(5) - 2 : x;
    }

    private int digestOf(int count) {
        return seldom() || count < 0 || count > model.versions() ? random.nextInt() : model.digest(count);
    }

    private static int bit(boolean b) {
        return b ? 1 : 0;
    }

    private static String[] both(String call, String got, String want) {
        return new String[] {call, got, want};
    }

    /** One call on both, as its text and the two answers. */
    private String[] step() {
        if (dense > 0) {
            dense--;
            return put(random.nextInt(48), someValue());
        }
        switch (random.nextInt(20)) {
            case 0: case 1: case 2: case 3: return put(someKey(), someValue());
            case 4: case 5: return delete(someKey());
            case 6: return seldom() || model.versions() < 5 || random.nextInt(3) == 0 ? commit() : chunks();
            case 7: return random.nextInt(4) == 0 ? rollback() : fail(seldom() ? random.nextInt() : upTo(43) - 1);
            case 8: return chunks();
            case 9: return both("versions()", "" + book.versions(), "" + model.versions());
            case 10: return get(seldom() ? -1 : someVersion(), someKey());
            case 11: return range(someVersion(), random.nextInt(60) - 5, seldom() ? random.nextInt() : upTo(60));
            case 12: return root(someVersion());
            case 13: return digest(near(upTo(model.versions())));
            case 14: return prove(near(1 + random.nextInt(model.versions())), someKey());
            case 15: return proveGrowth(near(1 + random.nextInt(model.versions())));
            case 16: return proof(upTo(120) - 2);
            case 17: return seldom() ? take(random.nextInt(), upTo(5)) : carry(upTo(150), seldom() ? random.nextInt() : 0);
            case 18: return both("shown()", "" + book.shown(), "" + model.shown());
            default: return growth ^ seldom()
                    ? verifyGrowth(digestOf(m), near(m), digestOf(n), near(n))
                    : verify(digestOf(n), near(n), near(v), random.nextInt(3) == 0 ? someKey() : key);
        }
    }

    private String[] put(int k, int value) {
        return both("put(" + k + ", " + value + ")",
                Check.answer(() -> { book.put(k, value); return 0; }),
                Check.answer(() -> { model.put(k, value); return 0; }));
    }

    private String[] delete(int k) {
        return both("delete(" + k + ")",
                Check.answer(() -> bit(book.delete(k))), Check.answer(() -> bit(model.delete(k))));
    }

    private String[] commit() {
        return both("commit()", Check.answer(book::commit), Check.answer(model::commit));
    }

    private String[] rollback() {
        book.rollback();
        model.rollback();
        return both("rollback()", "", "");
    }

    private String[] fail(int count) {
        return both("fail(" + count + ")", "" + book.fail(count), "" + model.fail(count));
    }

    private String[] chunks() {
        return both("chunks()", "" + book.chunks(), "" + model.chunks());
    }

    private String[] get(int version, int k) {
        return both("get(" + version + ", " + k + ")",
                Check.answer(() -> book.get(version, k)), Check.answer(() -> model.get(version, k)));
    }

    private String[] range(int version, int low, int high) {
        return both("range(" + version + ", " + low + ", " + high + ")",
                Check.answer(() -> book.range(version, low, high)),
                Check.answer(() -> model.range(version, low, high)));
    }

    private String[] root(int version) {
        return both("root(" + version + ")",
                Check.answer(() -> book.root(version)), Check.answer(() -> model.root(version)));
    }

    private String[] digest(int count) {
        return both("digest(" + count + ")",
                Check.answer(() -> book.digest(count)), Check.answer(() -> model.digest(count)));
    }

    private String[] prove(int count, int k) {
        int version = near(count > 0 ? random.nextInt(count) : 0);
        n = count;
        v = version;
        key = k;
        growth = false;
        return both("prove(" + count + ", " + version + ", " + k + ")",
                Check.answer(() -> book.prove(count, version, k)),
                Check.answer(() -> model.prove(count, version, k)));
    }

    private String[] proveGrowth(int count) {
        int part = near(count > 0 ? random.nextInt(count) : 0);
        n = count;
        m = part;
        growth = true;
        return both("proveGrowth(" + part + ", " + count + ")",
                Check.answer(() -> book.proveGrowth(part, count)),
                Check.answer(() -> model.proveGrowth(part, count)));
    }

    private String[] proof(int i) {
        return both("proof(" + i + ")", "" + book.proof(i), "" + model.proof(i));
    }

    private String[] take(int word, int count) {
        return both("take(" + word + ", " + count + ")", "" + book.take(word, count), "" + model.take(word, count));
    }

    private String[] carry(int i, int mask) {
        return both("carry(" + i + ", " + mask + ")", "" + book.carry(i, mask), "" + model.carry(i, mask));
    }

    private String[] verify(int digest, int count, int version, int k) {
        return both("verify(" + digest + ", " + count + ", " + version + ", " + k + ")",
                Check.answer(() -> book.verify(digest, count, version, k)),
                Check.answer(() -> model.verify(digest, count, version, k)));
    }

    private String[] verifyGrowth(int one, int part, int other, int count) {
        return both("verifyGrowth(" + one + ", " + part + ", " + other + ", " + count + ")",
                Check.answer(() -> bit(book.verifyGrowth(one, part, other, count))),
                Check.answer(() -> bit(model.verifyGrowth(one, part, other, count))));
    }

    public static void main(String[] args) {
        Check check = new Check();
        for (int run = 0; run < RUNS; run++) {
            RandomRunsTest test = new RandomRunsTest(run);
            for (int call = 0; call < CALLS; call++) {
                String[] row = test.step();
                if (!row[1].equals(row[2])) {
                    System.out.println("run " + run + ", call " + call + ": " + row[0] + " answered " + row[1]
                            + ", due is " + row[2]);
                    check.yes("run " + run, false);
                    break;
                }
            }
            check.yes("run " + run, true);
        }
        check.finish();
    }
}
