/** No call throws but node(), which throws NoSuchElementException alone, for any arguments in any state. */
public final class EdgeTest {
    private static final int[] EDGES = {
        Integer.MIN_VALUE, -2, -1, 0, 1, 2, 3, 4, 5, 59, 60, 61, 63, 64, 65, 499, 500, 501, 2047, 2048, 9999, 10_000,
        100_000, 100_001, 1_000_000_000, 1_000_000_001, Integer.MAX_VALUE,
    };

    public static void main(String[] args) {
        calls(new PowerChains(), "new", 0);
        calls(Due.of("base a;want a;"), "one base", 1);
        calls(Due.of(FaultTest.GREATEST + "want z a y x;"), "great", 60);
        PowerChains full = Due.of("base a b c d;e=a*b;want e d e c;");
        for (int i = 0; i < 59; i++) {
            full.add(i + 4, i % 3);
        }
        full.want(0, 63);
        full.save(0);
        calls(full, "full", 64);
        Due.end();
    }

    private static void calls(PowerChains x, String state, int nodes) {
        for (int a : EDGES) {
            for (int b : EDGES) {
                two(x, a, b);
                for (int c : EDGES) {
                    three(x, a, b, c);
                }
            }
            one(x, a);
        }
        Due.is(state + ": nodes are still", x.count(0) + x.count(1), nodes);
        back(x, x.dual());
        back(x, x.fold() - 1);
        back(x, x.prune() - 1);
        x.dualLong();
        Due.is(state + ": nodes are still", x.count(0) + x.count(1), nodes);
    }

    /** Takes back what was done, if it was. */
    private static void back(PowerChains x, int answer) {
        if (answer >= 0) {
            x.undo();
        }
    }

    private static void one(PowerChains x, int a) {
        x.feed(a, a, a, a, a);
        back(x, x.text(a));
        x.count(a);
        x.wanted(a);
        x.same(a);
        x.save(a);
        back(x, x.load(a));
        x.best(a);
        x.found(a);
    }

    private static void two(PowerChains x, int a, int b) {
        Due.node(x, a, b);
        x.exponent(a, b);
        back(x, x.add(a, b));
        back(x, x.want(a, b));
        x.method(a, b);
        x.star(a, b);
        x.lower(a, b);
        x.search(a, Math.min(b, 500));
        for (int what = 0; what < 13; what++) {
            x.count(what);
        }
    }

    private static void three(PowerChains x, int a, int b, int c) {
        x.chain(a, b, c);
        x.run(a, b, c, b, a, c);
        x.isChain(a, b, c, b, c, a);
        back(x, x.sequence(a, b, c, b, a));
        back(x, x.vector(a, b, c, a, b));
    }
}
