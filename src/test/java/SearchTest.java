/** Promises 26 and 27: the search with a budget, and what it found. */
public final class SearchTest {
    private static final int MAX = Integer.MAX_VALUE;
    private static final int MIN = Integer.MIN_VALUE;

    public static void main(String[] args) {
        refused();
        budgets();
        lengths();
        Due.end();
    }

    private static void found(PowerChains x, int... want) {
        Due.is("count(12)", x.count(12), want.length - 1);
        for (int k = 0; k < want.length; k++) {
            Due.is("found(" + k + ")", x.found(k), want[k]);
        }
        for (int k : new int[] {want.length, 20, 21, 64, -1, MAX, MIN}) {
            Due.is("found(" + k + ")", x.found(k), -1);
        }
    }

    private static void refused() {
        PowerChains x = new PowerChains();
        Due.is("search(23, 100000)", x.search(23, 100_000), 6);
        int visits = x.count(11);
        for (int n : new int[] {0, -1, 2048, MAX, MIN}) {
            Due.is("search(" + n + ", 10)", x.search(n, 10), -1);
        }
        for (int budget : new int[] {0, -1, 100_001, MAX, MIN}) {
            Due.is("search(5, " + budget + ")", x.search(5, budget), -1);
        }
        Due.is("visits stay", x.count(11), visits);
        Due.is("what was found stays", x.count(12), 6);
        Due.is("what was found stays", x.found(6), 23);
        Due.is("a search is no thing done", x.count(8), 0);
    }

    private static void budgets() {
        PowerChains x = new PowerChains();
        Due.is("search(1, 1)", x.search(1, 1), 0);
        found(x, 1);
        Due.is("search(2, 1)", x.search(2, 1), -2);
        Due.is("visits", x.count(11), 1);
        Due.is("nothing is found", x.count(12), -1);
        Due.is("nothing is found", x.found(0), -1);
        Due.is("search(2, 2)", x.search(2, 2), 1);
        found(x, 1, 2);
        // 7: 3 bits, so r is 4: 1, 2, 4, 6, 7.
        Due.is("search(7, 5)", x.search(7, 5), 4);
        found(x, 1, 2, 4, 6, 7);
        Due.is("search(7, 4)", x.search(7, 4), -2);
        Due.is("visits", x.count(11), 4);
        // 11: r is 5: 1, 2, 4, 8, 10, 11.
        Due.is("search(11, 6)", x.search(11, 6), 5);
        found(x, 1, 2, 4, 8, 10, 11);
        // 19: r is 6: 1, 2, 4, 8, 16, 18, 19.
        Due.is("search(19, 7)", x.search(19, 7), 6);
        found(x, 1, 2, 4, 8, 16, 18, 19);
        // 15, gone through by hand: 7 with one number left is too little, and is left again at once.
        Due.is("search(15, 32)", x.search(15, 32), 5);
        found(x, 1, 2, 4, 5, 10, 15);
        Due.is("visits", x.count(11), 32);
        Due.is("search(15, 31)", x.search(15, 31), -2);
        // 29 is the least that wants one more than the bound: r goes from 6 to 7, visits add up.
        Due.is("search(29, 100000)", x.search(29, 100_000), 7);
        int visits = x.count(11);
        Due.is("search with just enough", x.search(29, visits), 7);
        Due.is("visits", x.count(11), visits);
        Due.is("search with one fewer", x.search(29, visits - 1), -2);
        Due.is("visits", x.count(11), visits - 1);
        Due.is("nothing is found", x.count(12), -1);
        Due.is("the first is a visit each time r grows", visits > 7 ? 1 : 0, 1);
        Due.is("a hard one", x.search(1087, 100_000) == -2 ? x.count(11) : 100_000, 100_000);
    }

    private static void lengths() {
        // The lengths of shortest chains, up to 64.
        int[] due = {0, 1, 2, 2, 3, 3, 4, 3, 4, 4, 5, 4, 5, 5, 5, 4, 5, 5, 6, 5, 6, 6, 6, 5, 6, 6, 6, 6, 7, 6, 7,
            5, 6, 6, 7, 6, 7, 7, 7, 6, 7, 7, 7, 7, 7, 7, 8, 6, 7, 7, 7, 7, 8, 7, 8, 7, 8, 8, 8, 7, 8, 8, 8, 6};
        PowerChains x = new PowerChains();
        for (int n = 1; n <= due.length; n++) {
            Due.is("search(" + n + ", 100000)", x.search(n, 100_000), due[n - 1]);
            Due.is("found last", x.found(due[n - 1]), n);
            Due.is("found first", x.found(0), 1);
            for (int k = 1; k <= due[n - 1]; k++) {
                int step = x.found(k) - x.found(k - 1);
                boolean ahead = false;
                for (int i = 0; i < k; i++) {
                    ahead |= x.found(i) == step;
                }
                Due.is("found " + k + " of " + n + " is of the one ahead", ahead ? 1 : 0, 1);
            }
        }
        Due.is("search(1024, 11)", x.search(1024, 11), 10);
        Due.is("the greatest that is sought", x.search(2047, 5), -2);
        Due.is("visits", x.count(11), 5);
    }
}
