/** Promises 17 to 20: shelves, and what was done taken back. */
public final class ShelfTest {
    private static final int[] NO_SHELF = {-1, 3, 4, Integer.MAX_VALUE, Integer.MIN_VALUE};

    public static void main(String[] args) {
        saveAndLoad();
        same();
        undoOfEach();
        twelveAtMost();
        Due.end();
    }

    private static void saveAndLoad() {
        PowerChains x = Due.of("base a b;c=a*b;d=c*c;want d b;");
        for (int bad : NO_SHELF) {
            Due.is("save(" + bad + ")", x.save(bad), -1);
            Due.is("load(" + bad + ")", x.load(bad), -1);
            Due.is("same(" + bad + ")", x.same(bad), -1);
        }
        for (int shelf = 0; shelf < 3; shelf++) {
            Due.is("count(9)", x.count(9), shelf);
            Due.is("load of an empty shelf", x.load(shelf), -1);
            Due.is("save(" + shelf + ")", x.save(shelf), 2 + shelf);
            x.add(0, shelf);
        }
        Due.is("count(9)", x.count(9), 3);
        Due.is("save again", x.save(1), 5);
        Due.is("count(9)", x.count(9), 3);
        Due.is("save is no thing done", x.count(8), 4);
        Due.is("load(0)", x.load(0), 2);
        Due.is("load is a thing done", x.count(8), 5);
        Due.is("steps", x.count(1), 2);
        Due.look(x, 3, 2, 2);
        Due.wants(x, 3, 1);
        Due.is("add", x.add(3, 3), 4);
        Due.is("the shelf stays as it was", x.load(0), 2);
        Due.is("load(2)", x.load(2), 4);
        Due.look(x, 5, 0, 1);
        Due.is("load(1)", x.load(1), 5);
        Due.look(x, 6, 0, 2);
        for (int i = 0; i < 4; i++) {
            x.undo();
        }
        Due.is("shelves stay when things are taken back", x.count(9), 3);
        Due.is("load(1)", x.load(1), 5);

        x = new PowerChains();
        Due.is("an empty program on a shelf", x.save(2), 0);
        Due.is("it holds something", x.count(9), 1);
        Due.text(x, "base a;want a;");
        Due.is("same as an empty one", x.same(2), 0);
        Due.is("load of it", x.load(2), 0);
        Due.is("no bases", x.count(0), 0);
        Due.is("no wants", x.count(2), 0);
        Due.is("same", x.same(2), 1);
    }

    private static void same() {
        PowerChains x = Due.of("base a b;c=a*b;d=c*c;want d b;");
        x.save(0);
        Due.is("same", x.same(0), 1);
        Due.text(x, "base x y;p=x^2;q=y^2;r=p*q;want r y;");
        Due.is("by other steps", x.same(0), 1);
        x.want(1, 0);
        Due.is("another want", x.same(0), 0);
        x.want(1, 1);
        Due.is("as before", x.same(0), 1);
        x.want(2, 1);
        Due.is("a want more", x.same(0), 0);
        Due.text(x, "base a b c;p=a*b;q=p*p;want q b;");
        Due.is("a base more", x.same(0), 0);
        Due.text(x, "base a b;p=a*b;q=p*p;want b q;");
        Due.is("in another order", x.same(0), 0);
        Due.text(x, "base a b;p=a*b;q=p*p;want q;");
        Due.is("a want fewer", x.same(0), 0);
        Due.text(x, "base a b;p=a*b;q=p*a;want q b;");
        Due.is("one exponent of another", x.same(0), 0);
        Due.text(x, "base a b;p=b^2;q=p*a;want q b;");
        Due.is("an exponent of the first base alone", x.same(0), 0);
        Due.is("same(1)", x.same(1), -1);
        Due.is("same is no thing done", x.count(8), 10);
    }

    private static void undoOfEach() {
        PowerChains x = new PowerChains();
        x.save(0);
        Due.text(x, "base a b;want a b;");
        x.add(0, 1);
        x.add(1, 0);
        x.want(0, 2);
        x.fold();
        x.add(2, 2);
        x.prune();
        x.dual();
        x.sequence(1, 5, 0, 0, 0);
        x.vector(1, 5, 0, 0, 0);
        x.load(0);
        Due.is("count(8)", x.count(8), 11);
        int[] steps = {3, 3, 1, 1, 2, 1, 2, 2, 1, 0, 0};
        for (int i = 0; i < steps.length; i++) {
            Due.is("undo " + i, x.undo(), 10 - i);
            Due.is("steps behind undo " + i, x.count(1), steps[i]);
        }
        Due.is("no bases as at first", x.count(0), 0);
        Due.is("no wants as at first", x.count(2), 0);
        Due.is("undo of nothing", x.undo(), -1);
        Due.is("undo of nothing again", x.undo(), -1);
        Due.is("shelves", x.count(9), 1);
    }

    private static void twelveAtMost() {
        PowerChains x = Due.of("base a;want a;");
        for (int i = 0; i < 40; i++) {
            x.add(i, 0);
            Due.is("count(8)", x.count(8), Math.min(i + 2, 12));
        }
        for (int i = 1; i <= 12; i++) {
            Due.is("undo " + i, x.undo(), 12 - i);
            Due.is("steps", x.count(1), 40 - i);
            Due.exponents(x, 40 - i, 41 - i);
        }
        Due.is("undo 13", x.undo(), -1);
        Due.is("steps", x.count(1), 28);
        // Things done behind one taken back go on from there.
        x.add(0, 0);
        x.add(0, 0);
        Due.is("undo()", x.undo(), 1);
        Due.is("undo()", x.undo(), 0);
        Due.is("undo()", x.undo(), -1);
        Due.is("steps", x.count(1), 28);
    }
}
