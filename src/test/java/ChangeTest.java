/** Promises 9 to 12: steps and wants told anew, pruned and folded. */
public final class ChangeTest {
    private static final int MAX = Integer.MAX_VALUE;
    private static final int MIN = Integer.MIN_VALUE;

    public static void main(String[] args) {
        adds();
        addsBeyond();
        wants();
        prunes();
        folds();
        Due.end();
    }

    private static void adds() {
        PowerChains x = new PowerChains();
        Due.is("add to nothing", x.add(0, 0), -1);
        x = Due.of("base a b;want a;");
        Due.is("add(0, 1)", x.add(0, 1), 2);
        Due.is("add(2, 0)", x.add(2, 0), 3);
        Due.is("add(1, 3)", x.add(1, 3), 4);
        Due.look(x, 2, 0, 1);
        Due.look(x, 3, 2, 0);
        Due.look(x, 4, 1, 3);
        Due.exponents(x, 4, 2, 2);
        Due.is("count(8)", x.count(8), 4);
        for (int bad : new int[] {-1, 5, 64, MAX, MIN}) {
            Due.is("add(" + bad + ", 0)", x.add(bad, 0), -1);
            Due.is("add(0, " + bad + ")", x.add(0, bad), -1);
        }
        Due.is("steps", x.count(1), 3);
        Due.is("refused ones are nothing done", x.count(8), 4);
        for (int i = 4; i <= 60; i++) {
            Due.is("add " + i, x.add(0, 1), i + 1);
        }
        Due.is("add 61", x.add(0, 1), -1);
        Due.is("steps", x.count(1), 60);
        Due.is("count(8)", x.count(8), 12);
        Due.wants(x, 0);
    }

    private static void addsBeyond() {
        PowerChains x = Due.of(FaultTest.GREATEST + "want z;");
        Due.is("10 to the 15, and 1", x.add(59, 0), -2);
        Due.is("twice 10 to the 15", x.add(59, 59), -2);
        Due.is("a refused one is nothing done", x.count(8), 1);
        Due.is("steps", x.count(1), 58);
        Due.is("the other base", x.add(59, 1), 60);
        Due.is("1 and it", x.add(0, 60), -2);
        Due.is("one more", x.add(1, 60), 61);
        Due.is("NONE goes ahead at 60", x.add(59, 59), -1);
        Due.is("taken back", x.undo(), 2);
        Due.is("10 to the 15 again", x.add(57, 57), -1 + 62);
        Due.exponents(x, 61, 250_000_000_000_000L * 2, 0);
    }

    private static void wants() {
        PowerChains x = Due.of("base a b;c=a*b;want c;");
        for (int bad : new int[] {-1, 2, 3, 4, MAX, MIN}) {
            Due.is("want(" + bad + ", 0)", x.want(bad, 0), -1);
        }
        for (int bad : new int[] {-1, 3, 64, MAX, MIN}) {
            Due.is("want(0, " + bad + ")", x.want(0, bad), -1);
            Due.is("want(1, " + bad + ")", x.want(1, bad), -1);
        }
        Due.wants(x, 2);
        Due.is("count(8)", x.count(8), 1);
        Due.is("want(0, 1)", x.want(0, 1), 1);
        Due.wants(x, 1);
        Due.is("want(1, 0)", x.want(1, 0), 2);
        Due.is("want(2, 2)", x.want(2, 2), 3);
        Due.is("want(3, 2)", x.want(3, 2), 4);
        Due.is("want(4, 2)", x.want(4, 2), -1);
        Due.is("want(1, 2)", x.want(1, 2), 4);
        Due.wants(x, 1, 2, 2, 2);
        Due.is("want(1, 2) as it is", x.want(1, 2), 4);
        Due.is("each is a thing done", x.count(8), 7);
        Due.is("undo()", x.undo(), 6);
        Due.is("undo()", x.undo(), 5);
        Due.wants(x, 1, 0, 2, 2);
        Due.is("undo()", x.undo(), 4);
        Due.wants(x, 1, 0, 2);
        Due.is("want of a new object", new PowerChains().want(0, 0), -1);
    }

    private static void prunes() {
        PowerChains x = Due.of("base a b;c=a*a;d=a*b;e=c*c;f=d*c;g=f*e;h=d*f;want h d;");
        Due.is("prune()", x.prune(), 2);
        Due.is("steps", x.count(1), 4);
        Due.is("bases", x.count(0), 2);
        Due.is("count(8)", x.count(8), 2);
        Due.look(x, 2, 0, 0);
        Due.look(x, 3, 0, 1);
        Due.look(x, 4, 3, 2);
        Due.look(x, 5, 3, 4);
        Due.wants(x, 5, 3);
        Due.exponents(x, 5, 4, 2);
        Due.is("prune() again", x.prune(), 0);
        Due.is("it is no thing done", x.count(8), 2);
        Due.is("undo()", x.undo(), 1);
        Due.is("steps", x.count(1), 6);
        Due.wants(x, 7, 3);
        Due.look(x, 6, 5, 4);

        x = Due.of("base a b;c=b*b;d=c*c;want b;");
        Due.is("all steps go", x.prune(), 2);
        Due.is("steps", x.count(1), 0);
        Due.is("bases stay", x.count(0), 2);
        Due.wants(x, 1);
        Due.is("a step behind", x.add(0, 1), 2);

        x = new PowerChains();
        Due.is("prune of nothing", x.prune(), 0);
        // A step that is alike to another is pruned only if it isn't needed.
        x = Due.of("base a;b=a*a;c=a*a;d=b*c;want d;");
        Due.is("prune()", x.prune(), 0);
    }

    private static void folds() {
        PowerChains x = Due.of("base a b;c=a*b;d=b*a;e=d*c;f=c*d;g=f*d;h=a*a;i=h*b;want d g e f;");
        Due.is("fold()", x.fold(), 2);
        Due.is("steps", x.count(1), 5);
        Due.is("count(8)", x.count(8), 2);
        Due.look(x, 2, 0, 1);
        Due.look(x, 3, 2, 2, 0);
        Due.look(x, 4, 3, 2);
        Due.look(x, 5, 0, 0);
        Due.look(x, 6, 5, 1);
        Due.wants(x, 2, 4, 3, 3);
        Due.is("fold() again", x.fold(), 0);
        Due.is("it is no thing done", x.count(8), 2);
        Due.is("undo()", x.undo(), 1);
        Due.wants(x, 3, 6, 4, 5);

        // 4 by 2 and 2, by 3 and 1: the first one stays, needed or not.
        x = Due.of("base a;b=a*a;c=b*a;d=b*b;e=c*a;f=e*c;want f e;");
        Due.is("fold()", x.fold(), 1);
        Due.wants(x, 4, 3);
        Due.look(x, 3, 1, 1);
        Due.look(x, 4, 3, 2);
        Due.exponents(x, 4, 7);

        // Three alike, and one of the gone ones on both sides.
        x = Due.of("base a;b=a^2;c=a^2;d=a^2;e=c*d;f=d*d;want f;");
        Due.is("fold()", x.fold(), 3);
        Due.is("steps", x.count(1), 2);
        Due.look(x, 2, 1, 1);
        Due.wants(x, 2);
        Due.is("fold of nothing", new PowerChains().fold(), 0);
    }
}
