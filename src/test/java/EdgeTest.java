/** No call throws but node(), which throws NoSuchElementException alone, for any arguments in any state. */
public final class EdgeTest {
    private static final int[] EDGES = {
        Integer.MIN_VALUE, -2, -1, 0, 1, 2, 3, 4, 5, 59, 60, 61, 63, 64, 65, 499, 500, 501, 2047, 2048, 9999, 10_000,
        100_000, 100_001, 1_000_000_000, 1_000_000_001, Integer.MAX_VALUE,
    };

    public static void main(String[] args) {
        calls(new PowerChains(), "new");
        calls(Due.of("base a;want a;"), "one base");
        calls(Due.of(FaultTest.GREATEST + "want z a y x;"), "great");
        PowerChains full = Due.of("base a b c d;e=a*b;want e d;");
        for (int i = 0; i < 59; i++) {
            full.add(i % 5, i % 3);
        }
        full.save(0);
        calls(full, "full");
        Due.end();
    }

    private static void calls(PowerChains x, String state) {
        for (int a : EDGES) {
            for (int b : EDGES) {
                two(x, a, b);
                for (int c : EDGES) {
                    x.chain(a, b, c);
                    x.run(a, b, c, b, a, c);
                    x.isChain(a, b, c, b, c, a);
                    x.sequence(a, b, c, b, a);
                    x.undo();
                    x.vector(a, b, c, a, b);
                    x.undo();
                }
            }
            one(x, a);
        }
        x.dual();
        x.fold();
        x.prune();
        Due.is(state + ": no call threw", 0, 0);
    }

    private static void one(PowerChains x, int a) {
        x.feed(a, a, a, a, a);
        x.text(a);
        x.count(a);
        x.wanted(a);
        x.save(a);
        x.same(a);
        x.load(a);
        x.undo();
        x.best(a);
        x.found(a);
    }

    private static void two(PowerChains x, int a, int b) {
        Due.node(x, a, b);
        x.exponent(a, b);
        x.add(a, b);
        x.undo();
        x.want(a, b);
        x.undo();
        x.method(a, b);
        x.star(a, b);
        x.lower(a, b);
        x.search(a, Math.min(b, 500));
    }
}
