import java.util.ArrayDeque;
import java.util.ArrayList;
import java.util.Arrays;
import java.util.Collections;
import java.util.HashMap;
import java.util.List;
import java.util.Map;
import java.util.NoSuchElementException;
import java.util.TreeMap;
import java.util.TreeSet;

/** A second reading of the document, with lists and maps and no care for room, to compare with. */
final class Model {
    static final long LIMIT = 1_000_000_000_000_000L;

    /** Never changed once made. */
    record Prog(int bases, List<int[]> steps, List<Integer> wants) {
        int nodes() {
            return bases + steps.size();
        }

        int[] step(int node) {
            return steps.get(node - bases);
        }

        boolean has(int node) {
            return node >= 0 && node < nodes();
        }

        List<List<Long>> exponents() {
            List<List<Long>> all = new ArrayList<>();
            for (int node = 0; node < nodes(); node++) {
                List<Long> own = new ArrayList<>();
                for (int base = 0; base < bases; base++) {
                    own.add(node < bases ? (node == base ? 1L : 0L)
                            : all.get(step(node)[0]).get(base) + all.get(step(node)[1]).get(base));
                }
                all.add(own);
            }
            return all;
        }

        int depth(int node) {
            int[] depth = new int[nodes()];
            for (int i = bases; i <= node; i++) {
                depth[i] = 1 + Math.max(depth[step(i)[0]], depth[step(i)[1]]);
            }
            return depth[node];
        }

        TreeSet<Integer> needed() {
            TreeSet<Integer> needed = new TreeSet<>(wants);
            for (int node = nodes() - 1; node >= bases; node--) {
                if (needed.contains(node)) {
                    needed.add(step(node)[0]);
                    needed.add(step(node)[1]);
                }
            }
            return needed;
        }

        int kind(int node) {
            if (node < bases) {
                return 3;
            }
            int l = step(node)[0];
            int r = step(node)[1];
            return l == r ? 0 : Math.max(l, r) == node - 1 ? 1 : 2;
        }
    }

    private static final Prog EMPTY = new Prog(0, List.of(), List.of());

    private Prog prog = EMPTY;
    private final ArrayDeque<Prog> past = new ArrayDeque<>();
    private final Prog[] shelves = new Prog[3];
    private final List<Integer> tape = new ArrayList<>();
    private int visits = 0;
    private List<Integer> found = null;

    private int done(Prog next) {
        past.addLast(prog);
        if (past.size() > 12) {
            past.removeFirst();
        }
        prog = next;
        return next.steps.size();
    }

    int feed(int... words) {
        if (tape.size() > 480) {
            return -1;
        }
        for (int word : words) {
            for (int i = 3; i >= 0; i--) {
                tape.add(word >>> 8 * i & 255);
            }
        }
        return tape.size();
    }

    int text(int n) {
        if (n < 0 || n > tape.size()) {
            return -1;
        }
        StringBuilder text = new StringBuilder();
        for (int i = 0; i < n; i++) {
            text.append((char) (int) tape.get(i));
        }
        tape.clear();
        Parse parse = new Parse(text.toString());
        return parse.go() ? done(parse.result()) : -2 - parse.fault;
    }

    /** All tokens first, each as "place kind text", then one state after the other. */
    static final class Parse {
        private final List<String> kinds = new ArrayList<>();
        private final List<String> words = new ArrayList<>();
        private final List<Integer> places = new ArrayList<>();
        private final Map<String, Integer> names = new HashMap<>();
        private final List<int[]> steps = new ArrayList<>();
        private final List<Long[]> exponents = new ArrayList<>();
        private final List<Integer> wants = new ArrayList<>();
        private int bases = 0;
        int fault = -1;

        Parse(String text) {
            int at = 0;
            while (at < text.length()) {
                String rest = text.substring(at);
                String run = rest.replaceFirst("(?s)^([a-z]+|[0-9]+|.).*$", "$1");
                if (run.matches("[a-z]+")) {
                    token(run.equals("base") || run.equals("want") ? run : run.length() < 5 ? "name" : "bad", run, at);
                } else if (run.matches("[0-9]+")) {
                    token("number", run, at);
                } else if (";=*^".contains(run)) {
                    token(run, run, at);
                } else if (!run.equals(" ") && !run.equals("\n")) {
                    token("bad", run, at);
                }
                at += run.length();
            }
            token("end", "", text.length());
        }

        private void token(String kind, String word, int place) {
            kinds.add(kind);
            words.add(word);
            places.add(place);
        }

        /** For each state the tokens that may come and the states behind them. */
        private static final Map<String, String> NEXT = Map.ofEntries(
                Map.entry("start base", "base1"), Map.entry("base1 name", "bases"), Map.entry("bases name", "bases"),
                Map.entry("bases ;", "body"), Map.entry("body name", "given"), Map.entry("given =", "first"),
                Map.entry("first name", "op"), Map.entry("op *", "second"), Map.entry("op ^", "power"),
                Map.entry("second name", "semi"), Map.entry("power number", "semi"), Map.entry("semi ;", "body"),
                Map.entry("body want", "want1"), Map.entry("want1 name", "wants"), Map.entry("wants name", "wants"),
                Map.entry("wants ;", "over"), Map.entry("over end", "read"));

        boolean go() {
            String state = "start";
            String given = "";
            int left = 0;
            int right = 0;
            int number = 0;
            for (int t = 0; !state.equals("read"); t++) {
                String word = words.get(t);
                String next = NEXT.get(state + " " + kinds.get(t));
                int kind = 0;
                if (next == null) {
                    kind = 1;
                } else if (next.equals("bases")) {
                    kind = names.containsKey(word) ? 2 : bases == 4 ? 5 : 0;
                    names.put(word, bases);
                    bases++;
                } else if (next.equals("given")) {
                    kind = names.containsKey(word) ? 2 : 0;
                    given = word;
                } else if (next.equals("op") || next.equals("wants") || state.equals("second")) {
                    kind = !names.containsKey(word) ? 3 : next.equals("wants") && wants.size() == 4 ? 5 : 0;
                    int node = names.getOrDefault(word, -1);
                    if (next.equals("wants")) {
                        wants.add(node);
                    } else if (next.equals("op")) {
                        left = node;
                    } else {
                        right = node;
                        number = 0;
                    }
                } else if (state.equals("power")) {
                    kind = word.length() > 4 || Integer.parseInt(word) < 2 ? 4 : 0;
                    number = kind == 0 ? Integer.parseInt(word) : 0;
                } else if (state.equals("semi")) {
                    kind = finish(left, right, number);
                    names.put(given, bases + steps.size() - 1);
                }
                if (kind != 0) {
                    fault = 8 * places.get(t) + kind;
                    return false;
                }
                state = next;
            }
            return true;
        }

        private int finish(int left, int right, int number) {
            List<int[]> more = new ArrayList<>();
            if (number == 0) {
                more.add(new int[] {left, right});
            } else {
                int there = left;
                for (char bit : Integer.toBinaryString(number).substring(1).toCharArray()) {
                    more.add(new int[] {there, there});
                    there = bases + steps.size() + more.size() - 1;
                    if (bit == '1') {
                        more.add(new int[] {there, left});
                        there++;
                    }
                }
            }
            if (steps.size() + more.size() > 60) {
                return 5;
            }
            steps.addAll(more);
            for (List<Long> node : result().exponents()) {
                if (node.stream().anyMatch(e -> e > LIMIT)) {
                    return 6;
                }
            }
            return 0;
        }

        Prog result() {
            return new Prog(bases, List.copyOf(steps), List.copyOf(wants));
        }
    }

    int count(int what) {
        if (what >= 3 && what <= 5) {
            int n = 0;
            for (int node = 0; node < prog.nodes(); node++) {
                n += prog.kind(node) == what - 3 ? 1 : 0;
            }
            return n;
        }
        return switch (what) {
            case 0 -> prog.bases;
            case 1 -> prog.steps.size();
            case 2 -> prog.wants.size();
            case 6 -> prog.needed().tailSet(prog.bases).size();
            case 7 -> {
                int most = 0;
                for (int node = 0; node < prog.nodes(); node++) {
                    most = Math.max(most, prog.depth(node));
                }
                yield most;
            }
            case 8 -> past.size();
            case 9 -> (int) Arrays.stream(shelves).filter(s -> s != null).count();
            case 10 -> tape.size();
            case 11 -> visits;
            case 12 -> found == null ? -1 : found.size() - 1;
            default -> -1;
        };
    }

    int node(int node, int what) {
        if (!prog.has(node) || what < 0 || what > 6) {
            throw new NoSuchElementException();
        }
        List<List<Long>> exponents = prog.exponents();
        return switch (what) {
            case 0, 1 -> node < prog.bases ? -1 : prog.step(node)[what];
            case 2 -> prog.kind(node);
            case 3 -> prog.depth(node);
            case 4 -> prog.needed().contains(node) ? 1 : 0;
            case 5 -> exponents.indexOf(exponents.get(node));
            default -> {
                int uses = 0;
                for (int[] step : prog.steps) {
                    uses += (step[0] == node ? 1 : 0) + (step[1] == node ? 1 : 0);
                }
                yield uses;
            }
        };
    }

    long exponent(int node, int base) {
        return prog.has(node) && base >= 0 && base < prog.bases ? prog.exponents().get(node).get(base) : -1;
    }

    int wanted(int k) {
        return k >= 0 && k < prog.wants.size() ? prog.wants.get(k) : -1;
    }

    /** By powers of the bases, not by steps. */
    int run(int node, int m, int... x) {
        if (!prog.has(node) || m < 2 || m > 1_000_000_000) {
            return -1;
        }
        java.math.BigInteger modulus = java.math.BigInteger.valueOf(m);
        java.math.BigInteger product = java.math.BigInteger.ONE;
        for (int base = 0; base < prog.bases; base++) {
            java.math.BigInteger e = java.math.BigInteger.valueOf(prog.exponents().get(node).get(base));
            product = product.multiply(java.math.BigInteger.valueOf(x[base]).modPow(e, modulus)).mod(modulus);
        }
        return product.intValueExact();
    }

    int add(int left, int right) {
        if (!prog.has(left) || !prog.has(right) || prog.steps.size() == 60) {
            return -1;
        }
        List<int[]> steps = new ArrayList<>(prog.steps);
        steps.add(new int[] {left, right});
        Prog next = new Prog(prog.bases, steps, prog.wants);
        List<List<Long>> exponents = next.exponents();
        if (Collections.max(exponents.get(exponents.size() - 1)) > LIMIT) {
            return -2;
        }
        done(next);
        return next.nodes() - 1;
    }

    int want(int k, int node) {
        if (k < 0 || k > prog.wants.size() || k > 3 || !prog.has(node)) {
            return -1;
        }
        List<Integer> wants = new ArrayList<>(prog.wants);
        if (k == wants.size()) {
            wants.add(node);
        } else {
            wants.set(k, node);
        }
        done(new Prog(prog.bases, prog.steps, wants));
        return wants.size();
    }

    int prune() {
        TreeSet<Integer> needed = prog.needed();
        List<int[]> steps = new ArrayList<>();
        Map<Integer, Integer> now = new HashMap<>();
        for (int node = 0; node < prog.nodes(); node++) {
            if (node < prog.bases) {
                now.put(node, node);
            } else if (needed.contains(node)) {
                steps.add(new int[] {now.get(prog.step(node)[0]), now.get(prog.step(node)[1])});
                now.put(node, prog.bases + steps.size() - 1);
            }
        }
        return shrink(steps, now);
    }

    int fold() {
        Map<List<Long>, Integer> first = new HashMap<>();
        Map<Integer, Integer> now = new HashMap<>();
        List<int[]> steps = new ArrayList<>();
        List<List<Long>> exponents = prog.exponents();
        for (int node = 0; node < prog.nodes(); node++) {
            Integer alike = first.get(exponents.get(node));
            if (alike != null) {
                now.put(node, now.get(alike));
                continue;
            }
            first.put(exponents.get(node), node);
            if (node >= prog.bases) {
                steps.add(new int[] {now.get(prog.step(node)[0]), now.get(prog.step(node)[1])});
            }
            now.put(node, node < prog.bases ? node : prog.bases + steps.size() - 1);
        }
        return shrink(steps, now);
    }

    private int shrink(List<int[]> steps, Map<Integer, Integer> now) {
        int gone = prog.steps.size() - steps.size();
        if (gone > 0) {
            List<Integer> wants = new ArrayList<>();
            prog.wants.forEach(w -> wants.add(now.get(w)));
            done(new Prog(prog.bases, steps, wants));
        }
        return gone;
    }

    private static Prog turned(Prog from) {
        if (from.wants.isEmpty()) {
            return null;
        }
        int bases = from.wants.size();
        List<int[]> steps = new ArrayList<>();
        Map<Integer, Integer> came = new HashMap<>();
        for (int node = from.nodes() - 1; node >= 0; node--) {
            List<Integer> row = new ArrayList<>();
            for (int k = 0; k < bases; k++) {
                if (from.wants.get(k) == node) {
                    row.add(k);
                }
            }
            for (int step = Math.max(node + 1, from.bases); step < from.nodes(); step++) {
                for (int side = 0; side < 2; side++) {
                    if (from.step(step)[side] == node && came.containsKey(step)) {
                        row.add(came.get(step));
                    }
                }
            }
            for (int i = 0; i < row.size(); i++) {
                if (i > 0) {
                    steps.add(new int[] {came.get(node), row.get(i)});
                }
                came.put(node, i == 0 ? row.get(0) : bases + steps.size() - 1);
            }
        }
        List<Integer> wants = new ArrayList<>();
        for (int base = 0; base < from.bases; base++) {
            if (!came.containsKey(base)) {
                return null;
            }
            wants.add(came.get(base));
        }
        return steps.size() > 60 ? null : new Prog(bases, steps, wants);
    }

    int dual() {
        Prog dual = turned(prog);
        return dual == null ? -1 : done(dual);
    }

    int dualLong() {
        Prog dual = turned(prog);
        return dual == null ? -1 : dual.steps.size();
    }

    private static Prog sequenceFor(int n, int... numbers) {
        if (n < 1 || n > 4) {
            return null;
        }
        TreeSet<Integer> set = new TreeSet<>(List.of(1));
        for (int i = 0; i < n; i++) {
            if (numbers[i] < 1 || numbers[i] > 9999) {
                return null;
            }
            set.add(numbers[i]);
        }
        TreeMap<Integer, int[]> parts = new TreeMap<>();
        for (Integer f = set.last(); f > 1; f = set.lower(f)) {
            int g = set.lower(f);
            int[] of = {g, f - g};
            if (f > 2 * g) {
                of = f % 2 == 0 ? new int[] {f / 2, f / 2} : new int[] {f - 1, 1};
            }
            parts.put(f, of);
            set.add(of[0]);
            set.add(of[1]);
        }
        List<Integer> order = new ArrayList<>(set);
        List<int[]> steps = new ArrayList<>();
        for (int[] of : parts.values()) {
            steps.add(new int[] {order.indexOf(of[0]), order.indexOf(of[1])});
        }
        List<Integer> wants = new ArrayList<>();
        for (int i = 0; i < n; i++) {
            wants.add(order.indexOf(numbers[i]));
        }
        return steps.size() > 60 ? null : new Prog(1, steps, wants);
    }

    int sequence(int n, int a, int b, int c, int d) {
        Prog next = sequenceFor(n, a, b, c, d);
        return next == null ? -1 : done(next);
    }

    int vector(int n, int a, int b, int c, int d) {
        Prog next = sequenceFor(n, a, b, c, d);
        Prog dual = next == null ? null : turned(next);
        return dual == null ? -1 : done(dual);
    }

    int save(int shelf) {
        if (shelf < 0 || shelf > 2) {
            return -1;
        }
        shelves[shelf] = prog;
        return prog.steps.size();
    }

    private Prog on(int shelf) {
        return shelf < 0 || shelf > 2 ? null : shelves[shelf];
    }

    int load(int shelf) {
        return on(shelf) == null ? -1 : done(on(shelf));
    }

    int same(int shelf) {
        Prog other = on(shelf);
        if (other == null) {
            return -1;
        }
        return prog.bases == other.bases && wantRows(prog).equals(wantRows(other)) ? 1 : 0;
    }

    private static List<List<Long>> wantRows(Prog p) {
        List<List<Long>> rows = new ArrayList<>();
        p.wants.forEach(w -> rows.add(p.exponents().get(w)));
        return rows;
    }

    int undo() {
        if (past.isEmpty()) {
            return -1;
        }
        prog = past.removeLast();
        return past.size();
    }

    /** Null: none such. */
    static List<Integer> chainOf(int n, int method) {
        if (n < 1 || n > 9999 || method < 0 || method > 3) {
            return null;
        }
        List<Integer> row = new ArrayList<>();
        if (method == 2) {
            row = factor(n);
        } else if (method == 1) {
            int bits = Integer.toBinaryString(n).length();
            for (int b = 0; b < bits; b++) {
                row.add(1 << b);
                row.add(n % (2 << b) == 0 ? 1 : n % (2 << b));
            }
        } else if (method == 0 || n < 4) {
            for (int shift = Integer.toBinaryString(n).length() - 1; shift >= 0; shift--) {
                row.add(Math.max(1, n >> shift + 1 << 1));
                row.add(n >> shift);
            }
        } else {
            row.addAll(List.of(1, 2, 3));
            String fours = Integer.toString(n, 4);
            for (int i = 1; i < fours.length(); i++) {
                int there = Integer.parseInt(fours.substring(0, i), 4);
                row.addAll(List.of(2 * there, 4 * there, 4 * there + fours.charAt(i) - '0'));
            }
        }
        return new ArrayList<>(new TreeSet<>(row));
    }

    private static List<Integer> factor(int n) {
        if (n == 1) {
            return List.of(1);
        }
        int p = 2;
        while (n % p != 0) {
            p++;
        }
        List<Integer> row = new ArrayList<>(factor(p == n ? p - 1 : p));
        if (p == n) {
            row.add(p);
        } else {
            List<Integer> rest = factor(n / p);
            for (int c : rest.subList(1, rest.size())) {
                row.add(p * c);
            }
        }
        return row;
    }

    int method(int n, int method) {
        List<Integer> row = chainOf(n, method);
        return row == null ? -1 : row.size() - 1;
    }

    int chain(int n, int method, int k) {
        List<Integer> row = chainOf(n, method);
        return row == null ? -1 : k < 0 || k >= row.size() ? -2 : row.get(k);
    }

    int best(int n) {
        if (n < 1 || n > 9999) {
            return -1;
        }
        return Collections.min(List.of(0, 1, 2, 3), (a, b) -> Integer.compare(method(n, a), method(n, b)));
    }

    int star(int n, int method) {
        List<Integer> row = chainOf(n, method);
        if (row == null) {
            return -1;
        }
        for (int k = 1; k < row.size(); k++) {
            if (!row.subList(0, k).contains(row.get(k) - row.get(k - 1))) {
                return 0;
            }
        }
        return 1;
    }

    int lower(int n, int which) {
        if (n < 1 || n > 9999 || which < 0 || which > 2) {
            return -1;
        }
        if (which == 2) {
            int k = 0;
            while (1 << k < n) {
                k++;
            }
            return k;
        }
        int halvings = 0;
        for (int half = n; half > 1; half /= 2) {
            halvings++;
        }
        int ones = Integer.toBinaryString(n).replace("0", "").length();
        return halvings + (which == 0 ? 0 : new int[] {0, 0, 1, 2, 2}.length > ones ? new int[] {0, 0, 1, 2, 2}[ones] : 3);
    }

    private static final class GivenUp extends Exception {
        private static final long serialVersionUID = 1L;
    }

    int search(int n, int budget) {
        if (n < 1 || n > 2047 || budget < 1 || budget > 100_000) {
            return -1;
        }
        visits = 0;
        found = null;
        try {
            for (int r = lower(n, 1); found == null; r++) {
                seek(new ArrayList<>(List.of(1)), n, r, budget);
            }
            return found.size() - 1;
        } catch (GivenUp e) {
            return -2;
        }
    }

    private void seek(List<Integer> row, int n, int r, int budget) throws GivenUp {
        if (visits == budget) {
            throw new GivenUp();
        }
        visits++;
        int k = row.size() - 1;
        int a = row.get(k);
        if (a == n) {
            found = new ArrayList<>(row);
            return;
        }
        if (k == r || a * Math.pow(2, r - k) < n) {
            return;
        }
        for (int i = k; i >= 0 && found == null; i--) {
            if (a + row.get(i) <= n) {
                row.add(a + row.get(i));
                seek(row, n, r, budget);
                row.remove(k + 1);
            }
        }
    }

    int found(int k) {
        return found == null || k < 0 || k >= found.size() ? -1 : found.get(k);
    }

    int isChain(int n, int a, int b, int c, int d, int e) {
        if (n < 1 || n > 6) {
            return -1;
        }
        List<Long> ahead = new ArrayList<>();
        for (long number : new long[] {1, a, b, c, d, e}) {
            if (ahead.size() == n) {
                break;
            }
            boolean good = ahead.isEmpty();
            for (long one : ahead) {
                good |= ahead.contains(number - one);
            }
            if (!good || !ahead.isEmpty() && number <= ahead.get(ahead.size() - 1)) {
                return 0;
            }
            ahead.add(number);
        }
        return 1;
    }
}
