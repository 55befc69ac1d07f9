/** Promises 4 to 8: what is seen of a program, and its runs. */
public final class LookTest {
    private static final int MAX = Integer.MAX_VALUE;
    private static final int MIN = Integer.MIN_VALUE;

    public static void main(String[] args) {
        counts();
        nodes();
        needed();
        exponentsAndWants();
        runs();
        Due.end();
    }

    /** Nodes: 0 a, 1 b, 2 ab, 3 a2, 4 a3b, 5 a4b2, 6 a3b (again), 7 b2. */
    private static PowerChains sample() {
        return Due.of("base a b;c=a*b;d=a*a;e=d*c;f=e*c;g=c*d;h=b^2;want f c;");
    }

    private static void counts() {
        PowerChains x = sample();
        long[] due = {2, 6, 2, 2, 3, 1, 4, 3, 1, 0, 0, 0, -1};
        for (int what = 0; what < due.length; what++) {
            Due.is("count(" + what + ")", x.count(what), due[what]);
        }
        for (int what : new int[] {-1, 13, 14, MAX, MIN}) {
            Due.is("count(" + what + ")", x.count(what), -1);
        }
        x = Due.of("base a b;want b;");
        Due.is("depth of bases alone", x.count(7), 0);
        x = Due.of("base a;t=a^9999;want a;");
        Due.is("needed steps of a wanted base", x.count(6), 0);
        Due.is("doublings", x.count(3), 13);
        Due.is("stars", x.count(4), 7);
        Due.is("others", x.count(5), 0);
        Due.is("greatest depth, needed or not", x.count(7), 20);
        x = Due.of("base a b;c=a^8;d=b^2;e=a*b;want e;");
        Due.is("greatest depth is not the last one's", x.count(7), 3);
        x = Due.of("base a b;c=a^8;d=b*c;e=d*b;want e;");
        Due.is("depth by the right", Due.node(x, 5, 3), 4);
        Due.is("depth by the left", Due.node(x, 6, 3), 5);
    }

    private static void nodes() {
        PowerChains x = sample();
        Due.look(x, 0, -1, -1, 3, 0, 1, 0, 3);
        Due.look(x, 1, -1, -1, 3, 0, 1, 1, 3);
        Due.look(x, 2, 0, 1, 1, 1, 1, 2, 3);
        Due.look(x, 3, 0, 0, 0, 1, 1, 3, 2);
        Due.look(x, 4, 3, 2, 1, 2, 1, 4, 1);
        Due.look(x, 5, 4, 2, 1, 3, 1, 5, 0);
        Due.look(x, 6, 2, 3, 2, 2, 0, 4, 0);
        Due.look(x, 7, 1, 1, 0, 1, 0, 7, 0);
        for (int node : new int[] {-1, 8, 63, 64, 100, MAX, MIN}) {
            for (int what = -1; what <= 7; what++) {
                Due.is("node(" + node + ", " + what + ")", Due.node(x, node, what), Due.NO_SUCH);
            }
        }
        for (int what : new int[] {-1, 7, 8, MAX, MIN}) {
            Due.is("node(0, " + what + ")", Due.node(x, 0, what), Due.NO_SUCH);
            Due.is("node(7, " + what + ")", Due.node(x, 7, what), Due.NO_SUCH);
        }
        // A star by its left, by its right, and a base right ahead.
        x = Due.of("base a b;c=b*a;d=a*c;e=c*a;f=d*b;want a;");
        Due.look(x, 2, 1, 0, 1);
        Due.look(x, 3, 0, 2, 1);
        Due.look(x, 4, 2, 0, 2);
        Due.look(x, 5, 3, 1, 2);
        // A doubling of a node that isn't right ahead is a doubling.
        x = Due.of("base a b;c=a*b;d=a*a;want a;");
        Due.look(x, 3, 0, 0, 0);
        // Alike: the first of three, and exponents of the last base count.
        x = Due.of("base a b c d;e=a*d;f=d*a;g=a*c;h=a*d;want a;");
        Due.look(x, 5, 3, 0, 2, 1, 0, 4, 0);
        Due.look(x, 6, 0, 2, 2, 1, 0, 6, 0);
        Due.look(x, 7, 0, 3, 2, 1, 0, 4, 0);
    }

    private static void needed() {
        PowerChains x = Due.of("base a b c;d=a*a;e=d*d;f=d*b;want d d;");
        long[] due = {1, 0, 0, 1, 0, 0};
        for (int node = 0; node < due.length; node++) {
            Due.is("node(" + node + ", 4)", Due.node(x, node, 4), due[node]);
        }
        Due.is("count(6)", x.count(6), 1);
        Due.is("want(1, 5)", x.want(1, 5), 2);
        Due.is("node(1, 4)", Due.node(x, 1, 4), 1);
        Due.is("count(6)", x.count(6), 2);
        Due.is("want(1, 2)", x.want(1, 2), 2);
        Due.is("a wanted base is needed", Due.node(x, 2, 4), 1);
        Due.is("no more", Due.node(x, 1, 4), 0);
    }

    private static void exponentsAndWants() {
        PowerChains x = sample();
        Due.exponents(x, 0, 1, 0);
        Due.exponents(x, 1, 0, 1);
        Due.exponents(x, 5, 4, 2);
        Due.exponents(x, 7, 0, 2);
        for (int bad : new int[] {-1, 8, 64, MAX, MIN}) {
            Due.is("exponent(" + bad + ", 0)", x.exponent(bad, 0), -1);
        }
        for (int bad : new int[] {-1, 2, 3, 4, MAX, MIN}) {
            Due.is("exponent(0, " + bad + ")", x.exponent(0, bad), -1);
        }
        Due.wants(x, 5, 2);
        for (int bad : new int[] {-1, 2, 3, 4, MAX, MIN}) {
            Due.is("wanted(" + bad + ")", x.wanted(bad), -1);
        }
        x = Due.of(FaultTest.GREATEST + "want z;");
        Due.is("an exponent beyond an int", x.exponent(59, 0), 1_000_000_000_000_000L);
    }

    private static void runs() {
        PowerChains x = sample();
        // a4b2
        Due.is("run", x.run(5, 1_000_000, 3, 5, 0, 0), 81 * 25);
        Due.is("run", x.run(5, 1000, 3, 5, 9, 9), 25);
        Due.is("run of the last", x.run(7, 7, 3, 5, 0, 0), 25 % 7);
        Due.is("run of a base", x.run(1, 10, 3, 25, 0, 0), 5);
        Due.is("run below 0", x.run(0, 10, -3, 0, 0, 0), 7);
        Due.is("run of -10", x.run(0, 10, -10, 0, 0, 0), 0);
        Due.is("run of MIN", x.run(0, 1_000_000_000, MIN, 0, 0, 0), 852_516_352);
        Due.is("run of MAX", x.run(0, 1_000_000_000, MAX, 0, 0, 0), 147_483_647);
        Due.is("run, products beyond an int", x.run(3, 1_000_000_000, 999_999_999, 0, 0, 0), 1);
        Due.is("run", x.run(2, 1_000_000_000, 999_999_998, 999_999_997, 0, 0), 6);
        Due.is("run, modulus 2", x.run(5, 2, 3, 5, 0, 0), 1);
        Due.is("run, modulus 2", x.run(5, 2, 3, 4, 0, 0), 0);
        for (int m : new int[] {1, 0, -1, -7, 1_000_000_001, MAX, MIN}) {
            Due.is("run, modulus " + m, x.run(5, m, 3, 5, 0, 0), -1);
        }
        for (int node : new int[] {-1, 8, 64, MAX, MIN}) {
            Due.is("run of node " + node, x.run(node, 10, 3, 5, 0, 0), -1);
        }
        x = Due.of("base a b c d;e=c*d;want e;");
        Due.is("run of four", x.run(4, 1000, 1, 1, 20, 30), 600);
        Due.is("run of the third", x.run(2, 1000, 1, 2, 20, 30), 20);
        Due.is("run of the fourth", x.run(3, 1000, 1, 2, 20, 30), 30);
        Due.is("run is nothing done", x.count(8), 1);
    }
}
