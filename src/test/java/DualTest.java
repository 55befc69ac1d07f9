/** Promises 13 to 16: duals, sequences and vectors. */
public final class DualTest {
    private static final int MAX = Integer.MAX_VALUE;
    private static final int MIN = Integer.MIN_VALUE;

    public static void main(String[] args) {
        dualInItsOrder();
        dualsThatCannotBe();
        dualOfSixty();
        sequences();
        sequencesRefused();
        vectors();
        Due.end();
    }

    private static void dualInItsOrder() {
        // 0 a, 1 b, 2 ab, 3 a2b, 4 a3b2, 5 (not needed); wants 4, 2, 4, 0.
        PowerChains x = Due.of("base a b;c=a*b;d=c*a;e=d*c;f=e*e;want e c e a;");
        Due.is("dualLong()", x.dualLong(), 5);
        Due.is("dualLong() is nothing done", x.count(8), 1);
        Due.is("steps stay", x.count(1), 4);
        Due.is("dual()", x.dual(), 5);
        Due.is("bases are its wants", x.count(0), 4);
        // 5: nothing. 4: bases 0, 2: step 4. 3: step 4. 2: base 1, then 3 (4), 4 (4): steps 5, 6.
        // 1: 6. 0: base 3, then 2 (6), 3 (4): steps 7, 8.
        Due.look(x, 4, 0, 2);
        Due.look(x, 5, 1, 4);
        Due.look(x, 6, 5, 4);
        Due.look(x, 7, 3, 6);
        Due.look(x, 8, 7, 4);
        Due.wants(x, 8, 6);
        Due.exponents(x, 8, 3, 1, 3, 1);
        Due.exponents(x, 6, 2, 1, 2, 0);
        Due.is("count(8)", x.count(8), 2);
        Due.is("undo()", x.undo(), 1);
        Due.wants(x, 4, 2, 4, 0);

        // Twice of one: once for its left, once more for its right.
        x = Due.of("base a;b=a*a;want b;");
        Due.is("dual()", x.dual(), 1);
        Due.look(x, 1, 0, 0);
        Due.wants(x, 1);

        // The wants alone: no steps.
        x = Due.of("base a b;want b a;");
        Due.is("dual()", x.dual(), 0);
        Due.wants(x, 1, 0);
        Due.is("dual() of it", x.dual(), 0);
        Due.wants(x, 1, 0);
    }

    private static void dualsThatCannotBe() {
        PowerChains x = new PowerChains();
        Due.is("no wants: dual()", x.dual(), -1);
        Due.is("no wants: dualLong()", x.dualLong(), -1);
        x = Due.of("base a b;c=a*a;d=b*a;want c;");
        Due.is("a base came to nothing: dual()", x.dual(), -1);
        Due.is("a base came to nothing: dualLong()", x.dualLong(), -1);
        Due.is("nothing done", x.count(8), 1);
        Due.is("steps", x.count(1), 2);
        Due.is("bases", x.count(0), 2);
        Due.wants(x, 2);
        x.want(1, 3);
        Due.is("dualLong()", x.dualLong(), 2);
    }

    private static void dualOfSixty() {
        // One base and s steps, all needed, w wants: s + w - 1 steps.
        PowerChains x = Due.of("base a;b=a*a;want b;");
        for (int step = 2; step <= 60; step++) {
            x.add(step - 1, 0);
        }
        x.want(0, 60);
        Due.is("60 steps", x.dualLong(), 60);
        x.want(1, 5);
        Due.is("61 steps: dualLong()", x.dualLong(), -1);
        Due.is("61 steps: dual()", x.dual(), -1);
        Due.wants(x, 60, 5);
        x.undo();
        Due.is("dual()", x.dual(), 60);
        Due.exponents(x, 60, 61);
        refusedInEachRow();
        // With four bases the rows are more and the steps fewer.
        x = Due.of("base a b c d;e=a*b;f=c*d;g=e*f;want g;");
        Due.is("dual()", x.dual(), 0);
        Due.wants(x, 0, 0, 0, 0);
        Due.is("dual() of that", x.dual(), 3);
        Due.exponents(x, 6, 1, 1, 1, 1);
    }

    /** Wherever in a row the 61st step would come, and whatever comes behind it, the dual can't be. */
    private static void refusedInEachRow() {
        PowerChains x = Due.of("base a;b=a*a;want b b b b;");
        PowerChains y = Due.of("base a;b=a*a;want b b b b;");
        for (int step = 2; step <= 60; step++) {
            x.add(step - 1, 0);
            y.add(0, step - 1);
        }
        x.want(0, 60);
        y.want(0, 60);
        Due.is("steps are of the base by their right", x.dualLong(), -1);
        Due.is("steps are of the base by their left", y.dualLong(), -1);
        x = Due.of("base a b;c=a*b;want c a a a;");
        for (int step = 3; step <= 61; step++) {
            x.add(step - 1, 1);
        }
        x.want(0, 61);
        Due.is("a base is wanted thrice", x.dualLong(), -1);
        x.want(1, 61);
        x.want(2, 61);
        Due.is("a step is wanted thrice", x.dualLong(), -1);
        Due.is("steps", x.count(1), 60);
        // The 61st comes at a step, and the base could do without that one.
        x = Due.of("base a;b=a*a;c=b*b;want c c c c;");
        y = Due.of("base a;b=a*a;c=b*b;want c c c c;");
        for (int step = 3; step <= 59; step++) {
            x.add(step - 1, 1);
            y.add(1, step - 1);
        }
        x.add(59, 0);
        y.add(59, 0);
        x.want(0, 60);
        y.want(0, 60);
        Due.is("a step is of another by its right", x.dualLong(), -1);
        Due.is("a step is of another by its left", y.dualLong(), -1);
    }

    private static void sequences() {
        PowerChains x = new PowerChains();
        Due.is("sequence for 1", x.sequence(1, 1, 0, 0, 0), 0);
        Due.is("bases", x.count(0), 1);
        Due.wants(x, 0);
        Due.is("it is a thing done", x.count(8), 1);

        // 23 odd: 22 and 1; 22: 11; 11: 10; 10: 5; 5: 4; 4: 2; 2: 1.
        Due.is("sequence for 23", x.sequence(1, 23, 0, 0, 0), 7);
        long[] set = {1, 2, 4, 5, 10, 11, 22, 23};
        for (int node = 0; node < set.length; node++) {
            Due.exponents(x, node, set[node]);
        }
        Due.look(x, 7, 6, 0);
        Due.look(x, 6, 5, 5);
        Due.look(x, 3, 2, 0);
        Due.wants(x, 7);

        // 47 with 20: above 40, odd: 46; 46: 23; 23 below 40: 20 and 3; 20: above 6, even: 10; 10: 5;
        // 5 below 6: 3 and 2; 3: 2 and 1.
        Due.is("sequence for 20, 47, 20, 1", x.sequence(4, 20, 47, 20, 1), 8);
        set = new long[] {1, 2, 3, 5, 10, 20, 23, 46, 47};
        for (int node = 0; node < set.length; node++) {
            Due.exponents(x, node, set[node]);
        }
        Due.look(x, 2, 1, 0);
        Due.look(x, 3, 2, 1);
        Due.look(x, 6, 5, 2);
        Due.look(x, 7, 6, 6);
        Due.look(x, 8, 7, 0);
        Due.wants(x, 5, 8, 5, 0);
        Due.is("count(8)", x.count(8), 3);
        // What stands behind the first n is of no matter.
        Due.is("sequence of the first", x.sequence(1, 2, -5, 10_000, MIN), 1);
        Due.is("sequence of the first three", x.sequence(3, 2, 3, 4, MAX), 3);
        Due.is("undo()", x.undo(), 4);
        Due.exponents(x, 1, 2);
        Due.is("the greatest", x.sequence(1, 9999, 0, 0, 0), 20);
    }

    private static void sequencesRefused() {
        PowerChains x = Due.of("base a b;want b;");
        for (int n : new int[] {0, 5, -1, MAX, MIN}) {
            Due.is("sequence of n " + n, x.sequence(n, 7, 5, 3, 2), -1);
            Due.is("vector of n " + n, x.vector(n, 7, 5, 3, 2), -1);
        }
        for (int bad : new int[] {0, -1, 10_000, MAX, MIN}) {
            Due.is("sequence(1, bad)", x.sequence(1, bad, 5, 3, 2), -1);
            Due.is("sequence(2, .., bad)", x.sequence(2, 7, bad, 3, 2), -1);
            Due.is("sequence(3, .., bad)", x.sequence(3, 7, 5, bad, 2), -1);
            Due.is("sequence(4, .., bad)", x.sequence(4, 7, 5, 3, bad), -1);
            Due.is("vector(1, bad)", x.vector(1, bad, 5, 3, 2), -1);
            Due.is("vector(4, .., bad)", x.vector(4, 7, 5, 3, bad), -1);
        }
        Due.is("bases stay", x.count(0), 2);
        Due.wants(x, 1);
        Due.is("nothing done", x.count(8), 1);
    }

    private static void vectors() {
        PowerChains x = new PowerChains();
        Due.is("vector for 1", x.vector(1, 1, 0, 0, 0), 0);
        Due.is("bases", x.count(0), 1);
        Due.wants(x, 0);
        Due.is("vector for 3, 3, 1", x.vector(3, 3, 3, 1, 0), 4);
        Due.is("bases", x.count(0), 3);
        // 3 of 2 and 1, 2 of 1 and 1. 2: bases 0, 1: step 3. 1: step 3. 0: base 2, 1 twice, 2: 4 to 6.
        Due.look(x, 3, 0, 1);
        Due.look(x, 4, 2, 3);
        Due.look(x, 5, 4, 3);
        Due.look(x, 6, 5, 3);
        Due.wants(x, 6);
        Due.exponents(x, 6, 3, 3, 1);
        Due.is("vector for four", x.vector(4, 9999, 1000, 77, 6), x.dualLong() < 0 ? -1 : x.count(1));
        Due.is("one want", x.count(2), 1);
        Due.exponents(x, x.wanted(0), 9999, 1000, 77, 6);
        Due.is("a vector is one thing done", x.count(8), 3);
        Due.is("its dual is the sequence again", x.dual(), x.count(1));
        Due.is("wants", x.count(2), 4);
        Due.is("exponent", x.exponent(x.wanted(0), 0), 9999);
        Due.is("exponent", x.exponent(x.wanted(3), 0), 6);
    }
}
