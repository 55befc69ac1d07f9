/** The boundary cases of duals, sequences and vectors, sentence by sentence: terms, promises 13 to 16. */
final class DualBoundaries {
    private static final int MAX = Integer.MAX_VALUE;
    private static final int MIN = Integer.MIN_VALUE;

    private DualBoundaries() {
    }

    static void all() {
        dualBases();
        dualRows();
        dualSteps();
        dualsThatCannotBe();
        dualCalls();
        sequenceSet();
        sequenceRules();
        sequenceProgram();
        sequenceCall();
        vectors();
    }

    private static PowerChains dualOf(String text) {
        PowerChains x = Due.of(text);
        x.dual();
        return x;
    }

    private static void dualBases() {
        Sentence.of("Terms", "DUAL of a PROGRAM: BASES are its WANTS (the k-th BASE for the k-th WANT).");
        Due.picture(dualOf("base a;want a;"), "bases 1 wants 0");
        Due.picture(dualOf("base a b;want b a;"), "bases 2 wants 1 0");
        Due.picture(dualOf("base a b c d;want d a b c;"), "bases 4 wants 1 2 3 0");

        Sentence.of("Terms", "Its NODES are gone through from the last one to the first one, each having a row of NODES of the DUAL");
        // d: base 0. c: twice that. b: that (from c), then a likewise.
        Due.picture(dualOf("base a b;c=a*b;d=c*c;want d;"), "bases 1, 0*0 wants 1 1");
        // The last base comes ahead of the first one.
        Due.picture(dualOf("base a b;c=a*a;d=b*b;want c d;"), "bases 2, 1*1, 0*0 wants 3 2");
    }

    private static void dualRows() {
        Sentence.of("Terms", "the BASES of WANTS that are this NODE, in order");
        Due.picture(dualOf("base a;want a a a a;"), "bases 4, 0*1, 4*2, 5*3 wants 6");
        Due.picture(dualOf("base a b;want a b a b;"), "bases 4, 1*3, 0*2 wants 5 4");

        Sentence.of("Terms", "then, STEP by STEP behind it, in order, what that STEP came to, once if LEFT is it, once more if RIGHT is");
        // e: 2. d: 1. c: 0, then 1 by d's left: 3. a: 3 twice by c, 1 by d's right, 2 twice by e.
        Due.picture(dualOf("base a;c=a*a;d=c*a;e=a*a;want c d e;"),
                "bases 3, 0*1, 3*3, 4*1, 5*2, 6*2 wants 7");
        Due.picture(dualOf("base a b;c=a*b;d=b*a;want c d;"), "bases 2, 0*1, 0*1 wants 3 2");
        // The wants of a node come ahead of the steps of it.
        Due.picture(dualOf("base a;b=a*a;want b a;"), "bases 2, 1*0, 2*0 wants 3");

        Sentence.of("Terms", "An empty row: it came to nothing (its own are left out in rows, too).");
        Due.picture(dualOf("base a;b=a*a;c=b*a;want b;"), "bases 1, 0*0 wants 1");
        Due.picture(dualOf("base a;b=a*a;c=b*b;d=c*a;want a;"), "bases 1 wants 0");
    }

    private static void dualSteps() {
        Sentence.of("Terms", "Else the first of the row, and a STEP more for each other one, of what came so far (LEFT) and it (RIGHT): what it comes to.");
        // One in the row: no step. Two: one. Four: three.
        Due.picture(dualOf("base a b;c=a*b;want c;"), "bases 1 wants 0 0");
        Due.picture(dualOf("base a;b=a*a;want b;"), "bases 1, 0*0 wants 1");
        Due.picture(dualOf("base a;b=a*a;want b a a a;"), "bases 4, 1*2, 4*3, 5*0, 6*0 wants 7");

        Sentence.of("Terms", "WANTS of the DUAL: what the BASES came to, in order.");
        PowerChains x = dualOf("base a b c d;e=a*b;f=e*c;g=f*d;h=g*d;want h;");
        Due.is("wants", x.count(2), 4);
        Due.exponents(x, x.wanted(0), 1);
        Due.exponents(x, x.wanted(1), 1);
        Due.exponents(x, x.wanted(2), 1);
        Due.exponents(x, x.wanted(3), 2);

        Sentence.of("Terms", "(So the EXPONENT of a WANT by a BASE is that of the WANT of that BASE by the BASE of that WANT.)");
        x = Due.of("base a b c;d=a^7;e=d*b;f=e^3;g=f*c;want g e a f;");
        long[][] before = new long[4][3];
        for (int k = 0; k < 4; k++) {
            for (int base = 0; base < 3; base++) {
                before[k][base] = x.exponent(x.wanted(k), base);
            }
        }
        Due.is("21 of the first base", before[0][0], 21);
        x.dual();
        Due.is("bases", x.count(0), 4);
        Due.is("wants", x.count(2), 3);
        for (int k = 0; k < 4; k++) {
            for (int base = 0; base < 3; base++) {
                Due.is("want " + k + " by base " + base, x.exponent(x.wanted(base), k), before[k][base]);
            }
        }
    }

    /** One base and steps in a row, each of the one right ahead and the base; wants as told. */
    private static PowerChains row(int steps, int wants) {
        PowerChains x = Due.of("base a;want a;");
        for (int step = 1; step <= steps; step++) {
            x.add(step - 1, 0);
        }
        for (int k = 0; k < wants; k++) {
            x.want(k, steps);
        }
        return x;
    }

    private static void dualsThatCannotBe() {
        Sentence.of("Terms", "It can't be, if a BASE came to nothing, there are no WANTS, or it would have more than 60 STEPS.");
        Due.is("a base came to nothing", Due.of("base a b;c=a*a;want c;").dual(), -1);
        Due.is("the first base did", Due.of("base a b;c=b*b;want c;").dual(), -1);
        Due.is("a base of steps that come to nothing", Due.of("base a b;c=a*b;want a;").dual(), -1);
        Due.is("each came to something", Due.of("base a b;c=a*b;want c;").dual(), 0);
        Due.is("no wants", new PowerChains().dual(), -1);
        // Of one base: a step for each step, and for each want but one.
        Due.is("59 steps, 2 wants", row(59, 2).dual(), 60);
        Due.is("60 steps, 1 want", row(60, 1).dual(), 60);
        Due.is("60 steps, 2 wants", row(60, 2).dual(), -1);
        Due.is("59 steps, 3 wants", row(59, 3).dual(), -1);
        Due.is("58 steps, 3 wants", row(58, 3).dual(), 60);
        Due.is("57 steps, 4 wants", row(57, 4).dual(), 60);
        Due.is("58 steps, 4 wants", row(58, 4).dual(), -1);
        theSixtyFirstInEachRow();
    }

    /** The 61st step may come by a want, by a LEFT or by a RIGHT, of a base or of a step. */
    private static void theSixtyFirstInEachRow() {
        PowerChains x = Due.of("base a;want a;");
        PowerChains y = Due.of("base a;b=a*a;want b;");
        for (int step = 1; step <= 60; step++) {
            x.add(0, step - 1);
        }
        x.want(0, 60);
        Due.is("60 by LEFT", x.dualLong(), 60);
        x.want(1, 60);
        Due.is("61 by LEFT", x.dualLong(), -1);
        // Steps of b alone: what b comes to takes all the room that there is.
        for (int step = 2; step <= 60; step++) {
            y.add(step - 1, 1);
        }
        y.want(0, 60);
        Due.is("60, of a step", y.dualLong(), 60);
        y.want(1, 60);
        Due.is("61, of a step by RIGHT", y.dualLong(), -1);
        y = Due.of("base a b;c=a*b;want c;");
        for (int step = 3; step <= 61; step++) {
            y.add(2, step - 1);
        }
        y.want(0, 61);
        Due.is("59, of two bases", y.dualLong(), 59);
        y.want(1, 0);
        Due.is("60, of two bases", y.dualLong(), 60);
        y.want(2, 0);
        Due.is("61 by a want of the last base gone through", y.dualLong(), -1);
        // Behind the 61st, by a want, the row would go on with what a step came to.
        y.want(2, 0);
        y.want(3, 0);
        y.want(0, 61);
        Due.is("62 by wants of a base", y.dualLong(), -1);
        // The 61st comes in the row of a step, and the base's own row could do without what that came to.
        x = Due.of("base a;b=a*a;c=b*b;want c c c c;");
        y = Due.of("base a;b=a*a;c=b*b;want c c c c;");
        for (int step = 3; step <= 59; step++) {
            x.add(step - 1, 1);
            y.add(1, step - 1);
        }
        x.add(59, 0);
        y.add(59, 0);
        x.want(0, 60);
        y.want(0, 60);
        Due.is("63, of a step by RIGHT", x.dualLong(), -1);
        Due.is("63, of a step by LEFT", y.dualLong(), -1);
    }

    private static void dualCalls() {
        Sentence.of("Promise 13", "The PROGRAM is its DUAL: how many STEPS; NONE: it can't be.");
        PowerChains x = Due.of("base a b;c=a*b;d=c*a;want d c;");
        Due.is("dual()", x.dual(), 2);
        Due.picture(x, "bases 2, 1*0, 2*0 wants 3 2");
        Due.is("a thing done", x.count(8), 2);
        x = row(60, 2);
        String before = Due.picture(x);
        int done = x.count(8);
        Due.is("61 steps", x.dual(), -1);
        Due.picture(x, before);
        Due.is("no thing done", x.count(8), done);
        x = Due.of("base a b;c=a*a;want c;");
        Due.is("a base came to nothing", x.dual(), -1);
        Due.picture(x, "bases 2, 0*0 wants 2");
        Due.is("no thing done", x.count(8), 1);
        Due.is("no wants", new PowerChains().dual(), -1);

        Sentence.of("Promise 14", "How many STEPS its DUAL would have; NONE likewise.");
        x = Due.of("base a b;c=a*b;d=c*a;want d c;");
        Due.is("dualLong()", x.dualLong(), 2);
        Due.picture(x, "bases 2, 0*1, 2*0 wants 3 2");
        Due.is("no thing done", x.count(8), 1);
        Due.is("none", Due.of("base a;want a;").dualLong(), 0);
        Due.is("60", row(60, 1).dualLong(), 60);
        Due.is("61", row(60, 2).dualLong(), -1);
        Due.is("63", row(60, 4).dualLong(), -1);
        Due.is("a base came to nothing", Due.of("base a b;want a;").dualLong(), -1);
        Due.is("no wants", new PowerChains().dualLong(), -1);
    }

    /** The numbers of a sequence, by the exponents of its nodes. */
    private static void sequence(int[] numbers, long... set) {
        int[] a = java.util.Arrays.copyOf(numbers, 4);
        PowerChains x = new PowerChains();
        String call = "sequence for " + java.util.Arrays.toString(numbers);
        Due.is(call, x.sequence(numbers.length, a[0], a[1], a[2], a[3]), set.length - 1);
        for (int node = 0; node < set.length; node++) {
            Due.is(call + ", node " + node, x.exponent(node, 0), set[node]);
        }
    }

    private static void sequenceSet() {
        Sentence.of("Terms", "SEQUENCE for up to 4 numbers (1 to 9999): a set: they, and 1.");
        sequence(new int[] {1}, 1);
        sequence(new int[] {1, 1, 1, 1}, 1);
        sequence(new int[] {2}, 1, 2);
        sequence(new int[] {2, 1, 2}, 1, 2);
        sequence(new int[] {3, 1, 2, 4}, 1, 2, 3, 4);
        PowerChains x = new PowerChains();
        Due.is("9999", x.sequence(1, 9999, 0, 0, 0), 20);
        Due.is("10000", x.sequence(1, 10_000, 0, 0, 0), -1);
        Due.is("0", x.sequence(1, 0, 0, 0, 0), -1);

        Sentence.of("Terms", "Again and again the greatest one f that is not done, till that is 1");
        // 24: 12, 6, 3, then 2 and 1.
        sequence(new int[] {24}, 1, 2, 3, 6, 12, 24);
        // 20 with 9: above 18, even: 10; 10 below 18: 9 and 1; 9 odd: 8 and 1; 4; 2.
        sequence(new int[] {9, 20}, 1, 2, 4, 8, 9, 10, 20);

        Sentence.of("Terms", "g is the next one below it in the set");
        // 11 with 9 and 4: 9 and 2; 9 with 4: above 8, odd: 8 and 1; 8 is 2 times 4; 4 is 2 times 2.
        sequence(new int[] {4, 11, 9}, 1, 2, 4, 8, 9, 11);
        // What came into the set may be the next one below: 7 with 5: 5 and 2; 5 with 2: 4 and 1.
        sequence(new int[] {7, 5}, 1, 2, 4, 5, 7);
    }

    private static void sequenceRules() {
        Sentence.of("Terms", "if f is 2 g: f is of g and g");
        PowerChains x = new PowerChains();
        x.sequence(2, 10, 5, 0, 0);
        Due.is("10 with 5, left", Due.node(x, x.wanted(0), 0), x.wanted(1));
        Due.is("10 with 5, right", Due.node(x, x.wanted(0), 1), x.wanted(1));
        sequence(new int[] {4, 2}, 1, 2, 4);
        sequence(new int[] {6, 3}, 1, 2, 3, 6);

        Sentence.of("Terms", "if above 2 g and even: of half of it twice, if odd: of f - 1 and 1");
        // 2 g and 1, 2 g and 2.
        sequence(new int[] {7, 3}, 1, 2, 3, 6, 7);
        sequence(new int[] {8, 3}, 1, 2, 3, 4, 8);
        x.sequence(1, 6, 0, 0, 0);
        Due.picture(x, "bases 1, 0*0, 1*0, 2*2 wants 3");
        x.sequence(1, 5, 0, 0, 0);
        Due.picture(x, "bases 1, 0*0, 1*1, 2*0 wants 3");
        sequence(new int[] {3}, 1, 2, 3);

        Sentence.of("Terms", "else of g and f - g: what is not in the set comes into it; f is done.");
        // 2 g less 1: 5 with 3: 3 and 2. The one right below: 9 with 8: 8 and 1, that is there already.
        sequence(new int[] {5, 3}, 1, 2, 3, 5);
        sequence(new int[] {9, 8}, 1, 2, 4, 8, 9);
        sequence(new int[] {13, 8}, 1, 2, 3, 5, 8, 13);
        x.sequence(2, 5, 3, 0, 0);
        Due.picture(x, "bases 1, 0*0, 1*0, 2*1 wants 3 2");
    }

    private static void sequenceProgram() {
        Sentence.of("Terms", "Its PROGRAM: one BASE, STEPS for the set from 2 on upwards (LEFT the greater one), WANTS the numbers, in order.");
        PowerChains x = Due.of("base a b c;want c;");
        x.sequence(1, 1, 0, 0, 0);
        Due.picture(x, "bases 1 wants 0");
        x.sequence(4, 5, 1, 13, 5);
        // 13 with 5: 12 and 1; 12: 6; 6 with 5: 5 and 1; 5: 4 and 1; 4: 2.
        Due.picture(x, "bases 1, 0*0, 1*1, 2*0, 3*0, 4*4, 5*0 wants 3 0 6 3");
        x.sequence(2, 3, 5, 0, 0);
        Due.picture(x, "bases 1, 0*0, 1*0, 2*1 wants 2 3");
    }

    private static void sequenceCall() {
        Sentence.of("Promise 15", "The PROGRAM is that of the SEQUENCE for the first n (1 to 4) of these: how many STEPS");
        PowerChains x = new PowerChains();
        Due.is("the first", x.sequence(1, 2, 3, 5, 7), 1);
        Due.wants(x, 1);
        Due.is("two", x.sequence(2, 2, 3, 5, 7), 2);
        Due.wants(x, 1, 2);
        Due.is("three", x.sequence(3, 2, 3, 5, 7), 3);
        Due.wants(x, 1, 2, 3);
        Due.is("four", x.sequence(4, 2, 3, 5, 7), 4);
        Due.wants(x, 1, 2, 3, 4);
        Due.is("others are of no matter", x.sequence(1, 2, 0, -1, MAX), 1);
        Due.is("others are of no matter", x.sequence(3, 2, 3, 5, MIN), 3);
        Due.is("things done", x.count(8), 6);
        Sentence.of("Promise 15", "NONE: others, one of them can't be, more than 60 STEPS.");
        x = Due.of("base a b;want b;");
        for (int n : new int[] {0, 5, -1, MAX, MIN}) {
            Due.is("sequence(" + n + ", ..)", x.sequence(n, 2, 3, 5, 7), -1);
        }
        for (int bad : new int[] {0, -1, 10_000, MAX, MIN}) {
            Due.is("the first " + bad, x.sequence(1, bad, 3, 5, 7), -1);
            Due.is("the second " + bad, x.sequence(2, 2, bad, 5, 7), -1);
            Due.is("the third " + bad, x.sequence(3, 2, 3, bad, 7), -1);
            Due.is("the fourth " + bad, x.sequence(4, 2, 3, 5, bad), -1);
            Due.is("the first of four " + bad, x.sequence(4, bad, 3, 5, 7), -1);
        }
        Due.picture(x, "bases 2 wants 1");
        Due.is("no thing done", x.count(8), 1);
        Due.is("the least and the greatest", x.sequence(4, 1, 9999, 1, 9999), 20);
        // No four numbers have more than 57 (NOTES.md says why); the longest that was found isn't refused.
        Due.is("a long one", x.sequence(4, 9074, 7551, 8355, 9950), 33);
    }

    private static void vectors() {
        Sentence.of("Terms", "VECTOR for up to 4 numbers (1 to 9999): the DUAL of that.");
        int[][] all = {{1}, {9999}, {2, 2}, {7, 5}, {1, 9999, 1}, {9999, 1000, 77, 6}, {3, 3, 3, 3}, {1, 2, 3, 4}};
        for (int[] numbers : all) {
            int[] a = java.util.Arrays.copyOf(numbers, 4);
            PowerChains x = new PowerChains();
            PowerChains y = new PowerChains();
            x.sequence(numbers.length, a[0], a[1], a[2], a[3]);
            int steps = x.dual();
            Due.is("vector for " + java.util.Arrays.toString(numbers), y.vector(numbers.length, a[0], a[1], a[2], a[3]), steps);
            Due.picture(y, Due.picture(x));
            for (int base = 0; base < numbers.length; base++) {
                Due.is("exponent " + base, y.exponent(y.wanted(0), base), numbers[base]);
            }
        }

        Sentence.of("Promise 16", "The PROGRAM is the VECTOR for the first n of these: likewise.");
        PowerChains x = Due.of("base a b;want b;");
        for (int n : new int[] {0, 5, -1, MAX, MIN}) {
            Due.is("vector(" + n + ", ..)", x.vector(n, 2, 3, 5, 7), -1);
        }
        for (int bad : new int[] {0, -1, 10_000, MAX, MIN}) {
            Due.is("the first " + bad, x.vector(1, bad, 3, 5, 7), -1);
            Due.is("the second " + bad, x.vector(2, 2, bad, 5, 7), -1);
            Due.is("the third " + bad, x.vector(3, 2, 3, bad, 7), -1);
            Due.is("the fourth " + bad, x.vector(4, 2, 3, 5, bad), -1);
        }
        Due.picture(x, "bases 2 wants 1");
        Due.is("no thing done", x.count(8), 1);
        Due.is("the first", x.vector(1, 2, 0, -1, MAX), 1);
        Due.picture(x, "bases 1, 0*0 wants 1");
        Due.is("a thing done", x.count(8), 2);
        Due.is("a long one", x.vector(4, 9074, 7551, 8355, 9950), 36);
        Due.is("two", x.vector(2, 1, 1, 0, 0), 1);
        Due.picture(x, "bases 2, 0*1 wants 2");
        Due.is("four", x.vector(4, 1, 1, 1, 1), 3);
        Due.picture(x, "bases 4, 0*1, 4*2, 5*3 wants 6");
    }
}
