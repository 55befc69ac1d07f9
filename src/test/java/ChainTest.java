/** Promises 21 to 25 and 28: chains by the methods, their kinds, lower bounds, and isChain. */
public final class ChainTest {
    private static final int MAX = Integer.MAX_VALUE;
    private static final int MIN = Integer.MIN_VALUE;

    public static void main(String[] args) {
        chains();
        refused();
        allAreChains();
        best();
        star();
        lower();
        isChain();
        Due.end();
    }

    private static void is(int n, int method, int... want) {
        PowerChains x = new PowerChains();
        String of = n + ", " + method;
        Due.is("method(" + of + ")", x.method(n, method), want.length - 1);
        for (int k = 0; k < want.length; k++) {
            Due.is("chain(" + of + ", " + k + ")", x.chain(n, method, k), want[k]);
        }
        for (int k : new int[] {want.length, want.length + 1, 63, 64, -1, MAX, MIN}) {
            Due.is("chain(" + of + ", " + k + ")", x.chain(n, method, k), -2);
        }
    }

    private static void chains() {
        for (int method = 0; method < 4; method++) {
            is(1, method, 1);
            is(2, method, 1, 2);
            is(3, method, 1, 2, 3);
        }
        is(4, 0, 1, 2, 4);
        is(4, 1, 1, 2, 4);
        is(4, 2, 1, 2, 4);
        is(4, 3, 1, 2, 3, 4);
        is(23, 0, 1, 2, 4, 5, 10, 11, 22, 23);
        is(23, 1, 1, 2, 3, 4, 7, 8, 16, 23);
        is(23, 2, 1, 2, 4, 8, 16, 20, 22, 23);
        is(23, 3, 1, 2, 3, 4, 5, 10, 20, 23);
        is(33, 2, 1, 2, 3, 6, 12, 24, 30, 33);
        is(13, 1, 1, 2, 4, 5, 8, 13);
        // 45: 3 times 15, that 3 times 5.
        is(45, 2, 1, 2, 3, 6, 9, 18, 36, 45);
        is(49, 2, 1, 2, 4, 6, 7, 14, 28, 42, 49);
        // Pairs: 1, 0, 3; 2, 2; 3, 0, 0.
        is(19, 3, 1, 2, 3, 4, 8, 16, 19);
        is(10, 3, 1, 2, 3, 4, 8, 10);
        is(48, 3, 1, 2, 3, 6, 12, 24, 48);
        is(8, 3, 1, 2, 3, 4, 8);
        is(9999, 0, 1, 2, 4, 8, 9, 18, 19, 38, 39, 78, 156, 312, 624, 1248, 1249, 2498, 2499, 4998, 4999,
                9998, 9999);
        is(4096, 1, 1, 2, 4, 8, 16, 32, 64, 128, 256, 512, 1024, 2048, 4096);
        is(9998, 1, 1, 2, 4, 6, 8, 14, 16, 32, 64, 128, 256, 270, 512, 782, 1024, 1806, 2048, 4096, 8192,
                9998);
    }

    private static void refused() {
        PowerChains x = new PowerChains();
        for (int n : new int[] {0, -1, 10_000, MAX, MIN}) {
            Due.is("method(" + n + ", 0)", x.method(n, 0), -1);
            Due.is("chain(" + n + ", 0, 0)", x.chain(n, 0, 0), -1);
            Due.is("chain(" + n + ", 0, -1)", x.chain(n, 0, -1), -1);
            Due.is("best(" + n + ")", x.best(n), -1);
            Due.is("star(" + n + ", 0)", x.star(n, 0), -1);
            Due.is("lower(" + n + ", 0)", x.lower(n, 0), -1);
        }
        for (int method : new int[] {-1, 4, MAX, MIN}) {
            Due.is("method(5, " + method + ")", x.method(5, method), -1);
            Due.is("chain(5, " + method + ", 0)", x.chain(5, method, 0), -1);
            Due.is("star(5, " + method + ")", x.star(5, method), -1);
        }
        for (int which : new int[] {-1, 3, MAX, MIN}) {
            Due.is("lower(5, " + which + ")", x.lower(5, which), -1);
        }
    }

    /** Each method's row for each number rises from 1 to the number by sums of two ahead. */
    private static void allAreChains() {
        PowerChains x = new PowerChains();
        for (int n = 1; n <= 9999; n += n < 600 ? 1 : 37) {
            for (int method = 0; method < 4; method++) {
                int length = x.method(n, method);
                int[] row = new int[length + 1];
                for (int k = 0; k <= length; k++) {
                    row[k] = x.chain(n, method, k);
                }
                Due.is("a chain: " + n + ", " + method, risesBySums(row, n) ? 1 : 0, 1);
                Due.is("not below the bound: " + n, length >= x.lower(n, 2) ? 1 : 0, 1);
            }
        }
    }

    private static boolean risesBySums(int[] row, int n) {
        boolean good = row[0] == 1 && row[row.length - 1] == n;
        for (int k = 1; k < row.length; k++) {
            boolean sum = false;
            for (int i = 0; i < k; i++) {
                for (int j = 0; j < k; j++) {
                    sum |= row[i] + row[j] == row[k];
                }
            }
            good &= sum && row[k] > row[k - 1];
        }
        return good;
    }

    private static void best() {
        PowerChains x = new PowerChains();
        for (int n = 1; n <= 9999; n += 7) {
            int least = 0;
            for (int method = 1; method < 4; method++) {
                least = x.method(n, method) < x.method(n, least) ? method : least;
            }
            Due.is("best(" + n + ")", x.best(n), least);
        }
        Due.is("best(15)", x.best(15), 2);
        Due.is("best(1)", x.best(1), 0);
        Due.is("best(23)", x.best(23), 0);
        // BINARY and RIGHT have 8, FACTOR and THREES 7.
        Due.is("best(27)", x.best(27), 2);
        // 1, 2, 3, 5, 10, 20, 23: no method comes to it, but THREES is the least for 47.
        Due.is("best(47)", x.best(47), 3);
    }

    private static void star() {
        PowerChains x = new PowerChains();
        for (int n = 1; n <= 9999; n += 13) {
            Due.is("star(" + n + ", 0)", x.star(n, 0), 1);
        }
        Due.is("star(13, 1)", x.star(13, 1), 0);
        Due.is("star(15, 1)", x.star(15, 1), 1);
        Due.is("star(3, 1)", x.star(3, 1), 1);
        Due.is("star(1024, 1)", x.star(1024, 1), 1);
        // 1, 2, 3, 4, 7, 8, 16, 23: 16 is 8 twice, 23 is 16 and 7.
        Due.is("star(23, 1)", x.star(23, 1), 1);
        Due.is("star(9998, 1)", x.star(9998, 1), 0);
        // 1, 2, 3, 4, 8, 10: 4 is 3 and 1, though it came as twice 2.
        Due.is("star(10, 3)", x.star(10, 3), 1);
        Due.is("star(45, 2)", x.star(45, 2), 1);
    }

    private static void lower() {
        PowerChains x = new PowerChains();
        int[][] due = {
            {1, 0, 0, 0}, {2, 1, 1, 1}, {3, 1, 2, 2}, {4, 2, 2, 2}, {5, 2, 3, 3}, {7, 2, 4, 3}, {8, 3, 3, 3},
            {15, 3, 5, 4}, {16, 4, 4, 4}, {17, 4, 5, 5}, {31, 4, 7, 5}, {63, 5, 8, 6}, {255, 7, 10, 8},
            {8191, 12, 15, 13}, {8192, 13, 13, 13}, {8193, 13, 14, 14}, {9999, 13, 16, 14},
        };
        for (int[] d : due) {
            for (int which = 0; which < 3; which++) {
                Due.is("lower(" + d[0] + ", " + which + ")", x.lower(d[0], which), d[which + 1]);
            }
        }
    }

    private static void isChain() {
        PowerChains x = new PowerChains();
        for (int n : new int[] {0, -1, 7, MAX, MIN}) {
            Due.is("isChain(" + n + ", ..)", x.isChain(n, 2, 3, 4, 5, 6), -1);
        }
        for (int n = 1; n <= 6; n++) {
            Due.is("isChain(" + n + ", 2, 3, 4, 5, 6)", x.isChain(n, 2, 3, 4, 5, 6), 1);
            Due.is("isChain(" + n + ", 2, 4, 8, 16, 32)", x.isChain(n, 2, 4, 8, 16, 32), 1);
        }
        Due.is("what stands behind is of no matter", x.isChain(2, 2, 2, 0, -1, MAX), 1);
        Due.is("1 alone", x.isChain(1, MIN, MAX, 0, 0, 0), 1);
        Due.is("1, 3", x.isChain(2, 3, 0, 0, 0, 0), 0);
        Due.is("1, 1", x.isChain(2, 1, 0, 0, 0, 0), 0);
        Due.is("1, 2, 2", x.isChain(3, 2, 2, 0, 0, 0), 0);
        Due.is("1, 2, 4, 3", x.isChain(4, 2, 4, 3, 0, 0), 0);
        Due.is("1, 2, 4, 7", x.isChain(4, 2, 4, 7, 0, 0), 0);
        Due.is("1, 2, 4, 6, 7, 14", x.isChain(6, 2, 4, 6, 7, 14), 1);
        Due.is("1, 2, 4, 5, 8, 13", x.isChain(6, 2, 4, 5, 8, 13), 1);
        Due.is("1, 2, 4, 5, 8, 14", x.isChain(6, 2, 4, 5, 8, 14), 0);
        Due.is("1, 2, 4, 8, 16, 33", x.isChain(6, 2, 4, 8, 16, 33), 0);
        Due.is("1, -1", x.isChain(2, -1, 0, 0, 0, 0), 0);
        Due.is("1, 2, MAX", x.isChain(3, 2, MAX, 0, 0, 0), 0);
        Due.is("1, MIN", x.isChain(2, MIN, 0, 0, 0, 0), 0);
    }
}
