import java.util.Random;

/** All promises: runs of calls by chance (the same each time), each answer compared with the model's. */
public final class ModelTest {
    private static final int RUNS = 500;
    private static final int CALLS = 300;

    private final Random chance;
    private final int run;
    private PowerChains x = new PowerChains();
    private Model model = new Model();
    private String last = "";

    private ModelTest(int run) {
        this.run = run;
        this.chance = new Random(run);
    }

    public static void main(String[] args) {
        for (int run = 0; run < RUNS; run++) {
            new ModelTest(run).go();
        }
        methods();
        searches();
        Due.end();
    }

    private void is(String call, long got, long want) {
        Due.is("run " + run + ": " + call + " (behind " + last + ")", got, want);
    }

    private void go() {
        for (int call = 0; call < CALLS; call++) {
            change();
            if (chance.nextInt(4) == 0) {
                lookAll();
            }
        }
        lookAll();
    }

    private int any(int below) {
        switch (chance.nextInt(40)) {
            case 0:
                return -1;
            case 1:
                return below;
            case 2:
                return chance.nextInt();
            case 3:
                return chance.nextBoolean() ? Integer.MAX_VALUE : Integer.MIN_VALUE;
            default:
                return below > 0 ? chance.nextInt(below) : 0;
        }
    }

    private int aNode() {
        int nodes = model.count(0) + model.count(1);
        // Late nodes more often, so that exponents grow.
        return chance.nextInt(3) == 0 ? any(nodes) : nodes - 1 - Math.min(any(nodes + 1), chance.nextInt(3));
    }

    private int aNumber() {
        int bits = chance.nextInt(14);
        return any(10) == 0 ? any(10_000) : 1 + chance.nextInt(1 << bits) + (chance.nextInt(30) == 0 ? 9990 : 0);
    }

    private void change() {
        switch (chance.nextInt(16)) {
            case 0:
            case 1:
                tell(TextMaker.make(chance));
                break;
            case 2:
            case 3:
            case 4:
            case 5:
            case 6: {
                int l = aNode();
                int r = chance.nextInt(4) == 0 ? l : aNode();
                last = "add(" + l + ", " + r + ")";
                is(last, x.add(l, r), model.add(l, r));
                break;
            }
            case 7:
            case 8: {
                int k = any(model.count(2) + 1);
                int node = aNode();
                last = "want(" + k + ", " + node + ")";
                is(last, x.want(k, node), model.want(k, node));
                break;
            }
            case 9:
                last = "prune()";
                is(last, x.prune(), model.prune());
                break;
            case 10:
                last = "fold()";
                is(last, x.fold(), model.fold());
                break;
            case 11:
                last = "dual()";
                is("dualLong()", x.dualLong(), model.dualLong());
                is(last, x.dual(), model.dual());
                break;
            case 12:
                sequenceOrVector();
                break;
            case 13:
                shelf(any(3));
                break;
            default:
                last = "undo()";
                for (int times = chance.nextInt(3); times >= 0; times--) {
                    is(last, x.undo(), model.undo());
                }
        }
    }

    private void sequenceOrVector() {
        int n = any(5);
        int[] a = {aNumber(), aNumber(), aNumber(), aNumber()};
        if (chance.nextInt(4) == 0) {
            a[1] = a[0] + 1;
            a[2] = 2 * a[0];
        }
        boolean vector = chance.nextBoolean();
        last = (vector ? "vector(" : "sequence(") + n + ", " + java.util.Arrays.toString(a) + ")";
        if (vector) {
            is(last, x.vector(n, a[0], a[1], a[2], a[3]), model.vector(n, a[0], a[1], a[2], a[3]));
        } else {
            is(last, x.sequence(n, a[0], a[1], a[2], a[3]), model.sequence(n, a[0], a[1], a[2], a[3]));
        }
    }

    private void shelf(int shelf) {
        last = "shelf " + shelf;
        is("same", x.same(shelf), model.same(shelf));
        if (chance.nextBoolean()) {
            is("save", x.save(shelf), model.save(shelf));
        } else {
            is("load", x.load(shelf), model.load(shelf));
        }
        is("same", x.same(shelf), model.same(shelf));
    }

    private void tell(byte[] bytes) {
        last = "text \"" + new String(bytes, java.nio.charset.StandardCharsets.ISO_8859_1) + "\"";
        for (int at = 0; at < bytes.length; at += 20) {
            int[] w = new int[5];
            for (int i = 0; i < 20; i++) {
                w[i / 4] = w[i / 4] << 8 | (at + i < bytes.length ? bytes[at + i] & 255 : 32);
            }
            is("feed", x.feed(w[0], w[1], w[2], w[3], w[4]), model.feed(w));
        }
        int n = chance.nextInt(20) == 0 ? any(bytes.length) : bytes.length;
        is("text(" + n + ")", x.text(n), model.text(n));
    }

    private void lookAll() {
        for (int what = -1; what <= 13; what++) {
            is("count(" + what + ")", x.count(what), model.count(what));
        }
        int nodes = model.count(0) + model.count(1);
        for (int node = -1; node <= nodes; node++) {
            for (int what = -1; what <= 7; what++) {
                long want;
                try {
                    want = model.node(node, what);
                } catch (java.util.NoSuchElementException e) {
                    want = Due.NO_SUCH;
                }
                is("node(" + node + ", " + what + ")", Due.node(x, node, what), want);
            }
            for (int base = -1; base <= 4; base++) {
                is("exponent(" + node + ", " + base + ")", x.exponent(node, base), model.exponent(node, base));
            }
        }
        for (int k = -1; k <= 4; k++) {
            is("wanted(" + k + ")", x.wanted(k), model.wanted(k));
        }
        int node = aNode();
        int m = any(1_000_000_001);
        int[] b = {chance.nextInt(), chance.nextInt(), chance.nextInt(), chance.nextInt()};
        is("run(" + node + ", " + m + ", ..)", x.run(node, m, b[0], b[1], b[2], b[3]), model.run(node, m, b));
    }

    private static void methods() {
        PowerChains x = new PowerChains();
        Model model = new Model();
        for (int n = 0; n <= 10_000; n++) {
            for (int method = -1; method <= 4; method++) {
                String of = "(" + n + ", " + method + ")";
                Due.is("method" + of, x.method(n, method), model.method(n, method));
                Due.is("star" + of, x.star(n, method), model.star(n, method));
                Due.is("lower" + of, x.lower(n, method), model.lower(n, method));
            }
            Due.is("best(" + n + ")", x.best(n), model.best(n));
            int method = n % 4;
            for (int k = -1; k <= 25; k++) {
                Due.is("chain(" + n + ", " + method + ", " + k + ")", x.chain(n, method, k), model.chain(n, method, k));
            }
        }
        Random chance = new Random(5);
        for (int i = 0; i < 20_000; i++) {
            int[] a = new int[5];
            int before = 1;
            for (int k = 0; k < 5; k++) {
                a[k] = chance.nextInt(20) == 0 ? chance.nextInt() : before + 1 + chance.nextInt(1 + k);
                before = Math.max(1, Math.min(a[k], 40));
            }
            int n = chance.nextInt(8);
            Due.is("isChain(" + n + ", " + java.util.Arrays.toString(a) + ")",
                    x.isChain(n, a[0], a[1], a[2], a[3], a[4]), model.isChain(n, a[0], a[1], a[2], a[3], a[4]));
        }
    }

    private static void searches() {
        PowerChains x = new PowerChains();
        Model model = new Model();
        for (int n = 0; n <= 2048; n += n < 64 ? 1 : 7) {
            for (int budget : new int[] {0, 1, 10, 100, 3000, n % 5 == 0 ? 100_000 : 1}) {
                String of = "(" + n + ", " + budget + ")";
                Due.is("search" + of, x.search(n, budget), model.search(n, budget));
                Due.is("visits behind search" + of, x.count(11), model.count(11));
                for (int k = -1; k <= model.count(12) + 1; k++) {
                    Due.is("found(" + k + ") behind search" + of, x.found(k), model.found(k));
                }
            }
        }
    }
}
