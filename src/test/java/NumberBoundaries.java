/** The boundary cases of chains for a number, sentence by sentence: terms (3.), promises 21 to 28. */
final class NumberBoundaries {
    private static final int MAX = Integer.MAX_VALUE;
    private static final int MIN = Integer.MIN_VALUE;
    private static final int[] NO_NUMBER = {0, -1, 10_000, MAX, MIN};
    private static final int[] NO_METHOD = {-1, 4, 5, MAX, MIN};

    private NumberBoundaries() {
    }

    static void all() {
        chains();
        binaryAndRight();
        factor();
        threes();
        lengthsAndBounds();
        searches();
        visits();
        methodAndChain();
        bestAndStar();
        lower();
        search();
        found();
        isChain();
    }

    private static void chain(int n, int method, int... want) {
        PowerChains x = new PowerChains();
        String of = "(" + n + ", " + method;
        for (int k = 0; k < want.length; k++) {
            Due.is("chain" + of + ", " + k + ")", x.chain(n, method, k), want[k]);
        }
        Due.is("chain" + of + ", " + want.length + ")", x.chain(n, method, want.length), -2);
    }

    private static void chains() {
        Sentence.of("Terms", "A CHAIN for n (1 to 9999): numbers from 1 up to n, each but the first a sum of two ahead (or of one twice).");
        PowerChains x = new PowerChains();
        for (int method = 0; method < 4; method++) {
            Due.is("of 0", x.method(0, method), -1);
            Due.is("of 1", x.method(1, method), 0);
            Due.is("of 10000", x.method(10_000, method), -1);
            for (int n : new int[] {1, 2, 3, 4, 9973, 9998, 9999}) {
                sums(x, n, method);
            }
        }

        Sentence.of("Terms", "(A number that comes twice is put down once; CHAINS rise.)");
        for (int method = 0; method < 4; method++) {
            for (int n : new int[] {16, 17, 24, 31, 6561, 8191, 8192, 8193}) {
                int length = x.method(n, method);
                PowerChains y = new PowerChains();
                for (int k = 1; k <= length; k++) {
                    Due.is("rises", y.chain(n, method, k) > y.chain(n, method, k - 1) ? 1 : 0, 1);
                }
            }
        }
    }

    private static void sums(PowerChains x, int n, int method) {
        int length = x.method(n, method);
        int[] row = new int[length + 1];
        PowerChains y = new PowerChains();
        for (int k = 0; k <= length; k++) {
            row[k] = y.chain(n, method, k);
            boolean sum = k == 0;
            for (int i = 0; i < k; i++) {
                for (int j = 0; j <= i; j++) {
                    sum |= row[i] + row[j] == row[k];
                }
            }
            Due.is("number " + k + " of (" + n + ", " + method + ") is a sum", sum ? 1 : 0, 1);
        }
        Due.is("the first", row[0], 1);
        Due.is("the last", row[length], n);
    }

    private static void binaryAndRight() {
        Sentence.of("Terms", "METHODS: 0 BINARY: from the highest bit of n down, twice what is there, then, if the bit is 1, one more.");
        chain(1, 0, 1);
        chain(2, 0, 1, 2);
        chain(3, 0, 1, 2, 3);
        chain(8, 0, 1, 2, 4, 8);
        chain(15, 0, 1, 2, 3, 6, 7, 14, 15);
        chain(20, 0, 1, 2, 4, 5, 10, 20);

        Sentence.of("Terms", "1 RIGHT: 1, 2, 4 and so on up to the highest bit of n; then the sums of bits of n from the lowest on, from the second one on.");
        chain(1, 1, 1);
        chain(2, 1, 1, 2);
        chain(3, 1, 1, 2, 3);
        chain(8, 1, 1, 2, 4, 8);
        chain(9, 1, 1, 2, 4, 8, 9);
        chain(12, 1, 1, 2, 4, 8, 12);
        // 15: 3, 7, 15 among 1, 2, 4, 8. 22: 2 and 4, and 16.
        chain(15, 1, 1, 2, 3, 4, 7, 8, 15);
        chain(22, 1, 1, 2, 4, 6, 8, 16, 22);
    }

    private static void factor() {
        Sentence.of("Terms", "2 FACTOR: of 1: 1");
        chain(1, 2, 1);

        Sentence.of("Terms", "of a prime p: the CHAIN of p - 1 by FACTOR, and p");
        chain(2, 2, 1, 2);
        chain(3, 2, 1, 2, 3);
        chain(5, 2, 1, 2, 4, 5);
        chain(7, 2, 1, 2, 4, 6, 7);
        chain(11, 2, 1, 2, 4, 8, 10, 11);

        Sentence.of("Terms", "of another n with its least prime p: the CHAIN of p by FACTOR, then p times each but the first one of that of n / p by FACTOR");
        chain(4, 2, 1, 2, 4);
        chain(6, 2, 1, 2, 4, 6);
        chain(9, 2, 1, 2, 3, 6, 9);
        chain(15, 2, 1, 2, 3, 6, 12, 15);
        // The square of a prime is one of these, too.
        chain(25, 2, 1, 2, 4, 5, 10, 20, 25);
        chain(49, 2, 1, 2, 4, 6, 7, 14, 28, 42, 49);
        // 9409 is 97 times 97, the greatest such one: 97 is 96 and 1, 96 five times 2 and 3.
        chain(9409, 2, 1, 2, 4, 8, 16, 32, 64, 96, 97, 194, 388, 776, 1552, 3104, 6208, 9312, 9409);
    }

    private static void threes() {
        Sentence.of("Terms", "3 THREES: n below 4: by BINARY");
        chain(1, 3, 1);
        chain(2, 3, 1, 2);
        chain(3, 3, 1, 2, 3);

        Sentence.of("Terms", "else 1, 2, 3, then by pairs of bits of n from the highest one down (the first one may be a single bit 1; begun with what it is)");
        chain(4, 3, 1, 2, 3, 4);
        chain(5, 3, 1, 2, 3, 4, 5);
        chain(8, 3, 1, 2, 3, 4, 8);
        chain(12, 3, 1, 2, 3, 6, 12);
        chain(16, 3, 1, 2, 3, 4, 8, 16);

        Sentence.of("Terms", "twice, twice again, then, if the pair isn't 0, more by it");
        chain(13, 3, 1, 2, 3, 6, 12, 13);
        chain(14, 3, 1, 2, 3, 6, 12, 14);
        chain(15, 3, 1, 2, 3, 6, 12, 15);
        chain(9999, 3, 1, 2, 3, 4, 8, 9, 18, 36, 39, 78, 156, 312, 624, 1248, 2496, 2499, 4998, 9996, 9999);

        Sentence.of("Terms", "what is there already isn't put down again");
        // Twice 1 is 2, that is there.
        chain(7, 3, 1, 2, 3, 4, 7);
        chain(19, 3, 1, 2, 3, 4, 8, 16, 19);
    }

    private static void lengthsAndBounds() {
        Sentence.of("Terms", "LENGTH: how many numbers but the first.");
        PowerChains x = new PowerChains();
        Due.is("of 1", x.method(1, 0), 0);
        Due.is("of 1, 2", x.method(2, 0), 1);
        Due.is("of 1, 2, 3, 6, 7, 14, 15", x.method(15, 0), 6);

        Sentence.of("Terms", "LOWER bounds, 0: how often n can be halved till 1, downwards.");
        int[][] due = {{1, 0}, {2, 1}, {3, 1}, {4, 2}, {7, 2}, {8, 3}, {4095, 11}, {4096, 12}, {8191, 12}, {8192, 13}, {9999, 13}};
        bounds(0, due);

        Sentence.of("Terms", "1: that, and 0, if n has one bit that is 1, 1 if two, 2 if three or four, else 3.");
        due = new int[][] {{1, 0}, {2, 1}, {8192, 13}, {3, 2}, {8193, 14}, {7, 4}, {8195, 15}, {15, 5}, {8199, 15}, {31, 7}, {63, 8},
            {8207, 16}, {8191, 15}, {9999, 16}};
        bounds(1, due);

        Sentence.of("Terms", "2: the least k with 2 to the k not below n.");
        due = new int[][] {{1, 0}, {2, 1}, {3, 2}, {4, 2}, {5, 3}, {7, 3}, {8, 3}, {9, 4}, {8191, 13}, {8192, 13}, {8193, 14}, {9999, 14}};
        bounds(2, due);
    }

    private static void bounds(int which, int[][] due) {
        PowerChains x = new PowerChains();
        for (int[] d : due) {
            Due.is("lower(" + d[0] + ", " + which + ")", x.lower(d[0], which), d[1]);
        }
    }

    /** A search that finds: its visits, and the numbers. */
    private static void finds(int n, int visits, int... want) {
        PowerChains x = new PowerChains();
        Due.is("search(" + n + ", " + visits + ")", x.search(n, visits), want.length - 1);
        Due.is("visits", x.count(11), visits);
        for (int k = 0; k < want.length; k++) {
            Due.is("found(" + k + ") of " + n, x.found(k), want[k]);
        }
        Due.is("found(" + want.length + ") of " + n, x.found(want.length), -1);
    }

    private static void searches() {
        Sentence.of("Terms", "SEARCH for n with a budget (1 to 100,000)");
        PowerChains x = new PowerChains();
        Due.is("0", x.search(1, 0), -1);
        Due.is("1", x.search(1, 1), 0);
        Due.is("100,000", x.search(1, 100_000), 0);
        Due.is("100,001", x.search(1, 100_001), -1);

        Sentence.of("Terms", "for r from LOWER bound 1 on");
        // A shorter r would cost a visit: of 5 it begins with 3, of 7 with 4, of 8 with 3.
        finds(5, 4, 1, 2, 4, 5);
        finds(7, 5, 1, 2, 4, 6, 7);
        finds(8, 4, 1, 2, 4, 8);
        finds(11, 6, 1, 2, 4, 8, 10, 11);
        // 29 is the least that has none of that length: 6, then 7.
        Due.is("lower(29, 1)", x.lower(29, 1), 6);
        finds(29, 248, 1, 2, 4, 8, 16, 24, 28, 29);

        Sentence.of("Terms", "from 1 on, with k numbers behind 1 so far, the last being a: a VISIT (each is counted; would there be more than the budget, it is given up ahead of that one)");
        finds(1, 1, 1);
        finds(2, 2, 1, 2);
        Due.is("search(2, 1)", x.search(2, 1), -2);
        Due.is("visits", x.count(11), 1);
        Due.is("search(29, 248)", x.search(29, 248), 7);
        Due.is("search(29, 247)", x.search(29, 247), -2);
        Due.is("visits", x.count(11), 247);
        // The longest within the greatest budget, and one beyond it.
        Due.is("search(711, 99597)", x.search(711, 99_597), 12);
        Due.is("search(711, 99596)", x.search(711, 99_596), -2);
        Due.is("search(711, 100000)", x.search(711, 100_000), 12);
        Due.is("visits", x.count(11), 99_597);
        Due.is("search(2047, 100000)", x.search(2047, 100_000), -2);
        Due.is("visits", x.count(11), 100_000);
    }

    private static void visits() {
        Sentence.of("Terms", "if a is n: FOUND");
        finds(1, 1, 1);
        finds(3, 3, 1, 2, 3);

        Sentence.of("Terms", "else if k is r, or a times 2 to the r - k is below n: back");
        // 8 and 1024 are just not below; 15, gone through by hand, has 32 visits.
        finds(8, 4, 1, 2, 4, 8);
        finds(1024, 11, 1, 2, 4, 8, 16, 32, 64, 128, 256, 512, 1024);
        finds(15, 32, 1, 2, 4, 5, 10, 15);
        finds(30, 45, 1, 2, 4, 8, 10, 20, 30);

        Sentence.of("Terms", "else a more by each number so far, from the greatest one (a itself) down, if that is not above n.");
        // Of 7 behind 4: 8 is above, 6 isn't; of 6 behind 4: 6 is not above.
        finds(6, 4, 1, 2, 4, 6);
        finds(7, 5, 1, 2, 4, 6, 7);
        finds(23, 174, 1, 2, 4, 5, 9, 18, 23);
        finds(27, 63, 1, 2, 4, 8, 9, 18, 27);

        Sentence.of("Terms", "FOUND is the first one (given up: nothing is).");
        // 1, 2, 3, 6, 12, 15 is as short, and comes later.
        finds(15, 32, 1, 2, 4, 5, 10, 15);
        PowerChains x = new PowerChains();
        x.search(15, 32);
        Due.is("given up", x.search(15, 31), -2);
        Due.is("count(12)", x.count(12), -1);
        for (int k = 0; k <= 6; k++) {
            Due.is("found(" + k + ")", x.found(k), -1);
        }
    }

    private static void methodAndChain() {
        Sentence.of("Promise 21", "LENGTH of the CHAIN for n by a METHOD (0 to 3); NONE: others.");
        PowerChains x = new PowerChains();
        int[] lengths = {20, 20, 18, 18};
        for (int method = 0; method < 4; method++) {
            Due.is("method(1, " + method + ")", x.method(1, method), 0);
            Due.is("method(9999, " + method + ")", x.method(9999, method), lengths[method]);
            for (int n : NO_NUMBER) {
                Due.is("method(" + n + ", " + method + ")", x.method(n, method), -1);
            }
        }
        for (int method : NO_METHOD) {
            Due.is("method(5, " + method + ")", x.method(5, method), -1);
            Due.is("method(0, " + method + ")", x.method(0, method), -1);
        }

        Sentence.of("Promise 22", "Its k-th number (from 0); -2: not so many, k below 0");
        for (int method = 0; method < 4; method++) {
            Due.is("the first", x.chain(9999, method, 0), 1);
            Due.is("the last", x.chain(9999, method, lengths[method]), 9999);
            for (int k : new int[] {lengths[method] + 1, 63, 64, 65, MAX, -1, MIN}) {
                Due.is("chain(9999, " + method + ", " + k + ")", x.chain(9999, method, k), -2);
            }
            Due.is("the only one of 1", x.chain(1, method, 0), 1);
            Due.is("a second one of 1", x.chain(1, method, 1), -2);
            // What a longer one left behind isn't there.
            x.chain(9999, method, 0);
            Due.is("a fourth one of 3", x.chain(3, method, 3), -2);
        }

        Sentence.of("Promise 22", "NONE likewise.");
        for (int n : NO_NUMBER) {
            Due.is("chain(" + n + ", 0, 0)", x.chain(n, 0, 0), -1);
            Due.is("chain(" + n + ", 3, 0)", x.chain(n, 3, 0), -1);
        }
        for (int method : NO_METHOD) {
            Due.is("chain(5, " + method + ", 0)", x.chain(5, method, 0), -1);
        }
    }

    private static void bestAndStar() {
        Sentence.of("Promise 23", "The METHOD with the least LENGTH, of like ones the first; NONE: another n.");
        PowerChains x = new PowerChains();
        Due.is("all alike, 1", x.best(1), 0);
        Due.is("all alike, 3", x.best(3), 0);
        // 20, 20, 18, 18.
        Due.is("best(9999)", x.best(9999), 2);
        // 4: THREES is one longer. 39: RIGHT as BINARY 8, FACTOR 7, THREES 7.
        Due.is("best(4)", x.best(4), 0);
        Due.is("best(39)", x.best(39), 2);
        Due.is("best(47)", x.best(47), 3);
        for (int n : NO_NUMBER) {
            Due.is("best(" + n + ")", x.best(n), -1);
        }

        Sentence.of("Promise 24", "Whether all its numbers are STARS or DOUBLINGS (each of the one ahead and some one): 1, 0");
        for (int method = 0; method < 4; method++) {
            Due.is("star(1, " + method + ")", x.star(1, method), 1);
            Due.is("star(2, " + method + ")", x.star(2, method), 1);
        }
        // 1, 2, 4, 5, 8: 8 is twice 4, which isn't the one ahead. 1, 2, 4, 8, 9: each is.
        Due.is("star(13, 1)", x.star(13, 1), 0);
        Due.is("star(9, 1)", x.star(9, 1), 1);
        Due.is("star(9999, 0)", x.star(9999, 0), 1);
        Due.is("star(9999, 1)", x.star(9999, 1), 0);
        Due.is("star(8192, 1)", x.star(8192, 1), 1);
        // 1, 2, 3, 4, 5: 4 came as twice 2, and is of 3 and 1 as well.
        Due.is("star(5, 3)", x.star(5, 3), 1);

        Sentence.of("Promise 24", "NONE as chain().");
        for (int n : NO_NUMBER) {
            Due.is("star(" + n + ", 0)", x.star(n, 0), -1);
            Due.is("star(" + n + ", 2)", x.star(n, 2), -1);
        }
        for (int method : NO_METHOD) {
            Due.is("star(5, " + method + ")", x.star(5, method), -1);
        }
    }

    private static void lower() {
        Sentence.of("Promise 25", "LOWER bound of n (1 to 9999), which 0 to 2; NONE: others.");
        PowerChains x = new PowerChains();
        int[] greatest = {13, 16, 14};
        for (int which = 0; which <= 2; which++) {
            Due.is("lower(1, " + which + ")", x.lower(1, which), 0);
            Due.is("lower(9999, " + which + ")", x.lower(9999, which), greatest[which]);
            for (int n : NO_NUMBER) {
                Due.is("lower(" + n + ", " + which + ")", x.lower(n, which), -1);
            }
        }
        for (int which : new int[] {-1, 3, 4, MAX, MIN}) {
            Due.is("lower(5, " + which + ")", x.lower(5, which), -1);
        }
    }

    private static void search() {
        Sentence.of("Promise 26", "SEARCH (n 1 to 2047): LENGTH of what it FOUND; -2: given up");
        PowerChains x = new PowerChains();
        Due.is("1", x.search(1, 100), 0);
        Due.is("2047", x.search(2047, 100), -2);
        Due.is("2040", x.search(2040, 100_000), 13);
        Due.is("2, one too few", x.search(2, 1), -2);
        Due.is("2, just enough", x.search(2, 2), 1);

        Sentence.of("Promise 26", "NONE: others (what was FOUND stays).");
        x = new PowerChains();
        x.search(7, 100);
        for (int n : new int[] {0, -1, 2048, 9999, MAX, MIN}) {
            Due.is("search(" + n + ", 100)", x.search(n, 100), -1);
        }
        for (int budget : new int[] {0, -1, 100_001, MAX, MIN}) {
            Due.is("search(5, " + budget + ")", x.search(5, budget), -1);
            Due.is("search(0, " + budget + ")", x.search(0, budget), -1);
        }
        Due.is("count(11)", x.count(11), 5);
        Due.is("count(12)", x.count(12), 4);
        int[] kept = {1, 2, 4, 6, 7};
        for (int k = 0; k < kept.length; k++) {
            Due.is("found(" + k + ")", x.found(k), kept[k]);
        }
        x.search(7, 4);
        x.search(0, 4);
        Due.is("what was given up stays so", x.count(12), -1);
    }

    private static void found() {
        Sentence.of("Promise 27", "The k-th number of what was FOUND (from 0); NONE: not so many, k below 0, nothing is FOUND.");
        PowerChains x = new PowerChains();
        for (int k : new int[] {0, 1, -1, 20, 21, MAX, MIN}) {
            Due.is("ahead of any: found(" + k + ")", x.found(k), -1);
        }
        x.search(1, 1);
        Due.is("of 1: found(0)", x.found(0), 1);
        Due.is("of 1: found(1)", x.found(1), -1);
        x.search(2040, 100_000);
        Due.is("the first", x.found(0), 1);
        Due.is("the last", x.found(13), 2040);
        for (int k : new int[] {14, 20, 21, 22, 64, MAX, -1, MIN}) {
            Due.is("of 2040: found(" + k + ")", x.found(k), -1);
        }
        x.search(3, 3);
        Due.is("the last of a shorter one", x.found(2), 3);
        Due.is("what a longer one left behind isn't there", x.found(3), -1);
        x.search(3, 2);
        Due.is("nothing is found", x.found(0), -1);
    }

    private static void isChain() {
        Sentence.of("Promise 28", "Whether numbers are a CHAIN that rises, the first n (1 to 6) of 1, a, b, c, d, e: 1, 0");
        PowerChains x = new PowerChains();
        for (int n = 1; n <= 6; n++) {
            Due.is("the first " + n + " of 1, 2, 4, 8, 16, 32", x.isChain(n, 2, 4, 8, 16, 32), 1);
            Due.is("the first " + n + " of 1, 2, 3, 4, 5, 6", x.isChain(n, 2, 3, 4, 5, 6), 1);
        }
        // One that can't be matters if it is among the first n, and doesn't behind them.
        for (int at = 1; at <= 5; at++) {
            int[] a = {2, 4, 8, 16, 32};
            a[at - 1] = MAX;
            for (int n = 1; n <= 6; n++) {
                Due.is("number " + at + " can't be, the first " + n, x.isChain(n, a[0], a[1], a[2], a[3], a[4]), n <= at ? 1 : 0);
            }
        }
        Due.is("1, 2, 5", x.isChain(3, 2, 5, 0, 0, 0), 0);
        Due.is("1, 2, 4, 7", x.isChain(4, 2, 4, 7, 0, 0), 0);
        Due.is("1, 2, 4, 5, 11", x.isChain(5, 2, 4, 5, 11, 0), 0);
        Due.is("1, 2, 4, 8, 16, 33", x.isChain(6, 2, 4, 8, 16, 33), 0);
        Due.is("of two that aren't the one ahead", x.isChain(5, 2, 4, 5, 8, 0), 1);
        Due.is("the same again", x.isChain(3, 2, 2, 0, 0, 0), 0);
        Due.is("1 again", x.isChain(2, 1, 0, 0, 0, 0), 0);
        Due.is("one that falls", x.isChain(4, 2, 4, 3, 0, 0), 0);
        Due.is("0", x.isChain(2, 0, 0, 0, 0, 0), 0);
        Due.is("below 0", x.isChain(2, MIN, 0, 0, 0, 0), 0);
        Due.is("far above", x.isChain(2, MAX, 0, 0, 0, 0), 0);
        Due.is("1 alone", x.isChain(1, 0, -1, MIN, MAX, 7), 1);

        Sentence.of("Promise 28", "NONE: another n.");
        for (int n : new int[] {0, -1, 7, 8, MAX, MIN}) {
            Due.is("isChain(" + n + ", ..)", x.isChain(n, 2, 4, 8, 16, 32), -1);
        }
    }
}
