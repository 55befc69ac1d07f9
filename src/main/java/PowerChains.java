import java.util.NoSuchElementException;

/**
 * A desk of additions: programs that multiply powers, told as texts, looked at, pruned, folded and
 * turned round, and chains of sums for a number by several methods or by a search.
 */
public final class PowerChains {
    public static final int NONE = -1;

    /** The second kind of refusal, told apart from NONE. */
    private static final int REFUSED = -2;

    private static final int MOST_BASES = 4;
    private static final int MOST_STEPS = 60;
    private static final int MOST_WANTS = 4;
    private static final int MOST_NODES = MOST_BASES + MOST_STEPS;
    private static final long GREATEST_EXPONENT = 1_000_000_000_000_000L;
    private static final int MOST_TAKEN_BACK = 12;
    private static final int SHELVES = 3;
    private static final int TAPE_BYTES = 500;
    private static final int GREATEST_MODULUS = 1_000_000_000;

    private static final int GREATEST_NUMBER = 9999;
    private static final int METHODS = 4;
    private static final int GREATEST_SOUGHT = 2047;
    private static final int GREATEST_BUDGET = 100_000;

    private static final int DOUBLING = 0;
    private static final int STAR = 1;
    private static final int OTHER = 2;
    private static final int BASE = 3;

    private final Program program = new Program();
    /** Where the next program is made, so that a refused one leaves no trace. */
    private final Program draft = new Program();
    /** A vector's sequence: it is still read while the draft is made. */
    private final Program spare = new Program();
    private final Program[] shelves = new Program[SHELVES];
    private final boolean[] filled = new boolean[SHELVES];
    private final History history = new History();
    private final Survey survey = new Survey();
    private final Exponents exponents = new Exponents();
    private final Exponents shelfExponents = new Exponents();
    private final int[] becomes = new int[MOST_NODES];
    private final int[] residues = new int[MOST_NODES];
    private final Tape tape = new Tape();
    private final TextReader reader = new TextReader();
    private final Turner turner = new Turner();
    private final Descent descent = new Descent();
    private final Chain numbers = new Chain();
    private final Seeker seeker = new Seeker();

    public PowerChains() {
        for (int shelf = 0; shelf < SHELVES; shelf++) {
            shelves[shelf] = new Program();
        }
    }

    public int feed(int a, int b, int c, int d, int e) {
        if (tape.length + 20 > TAPE_BYTES) {
            return NONE;
        }
        tape.append(a);
        tape.append(b);
        tape.append(c);
        tape.append(d);
        tape.append(e);
        return tape.length;
    }

    public int text(int n) {
        if (n < 0 || n > tape.length) {
            return NONE;
        }
        tape.length = 0;
        int fault = reader.read(tape.bytes, n, draft);
        return fault == 0 ? adopt(draft) : REFUSED - fault;
    }

    public int count(int what) {
        switch (what) {
            case 0:
                return program.bases;
            case 1:
                return program.steps;
            case 2:
                return program.wantCount;
            case 3:
                return program.stepsOfKind(DOUBLING);
            case 4:
                return program.stepsOfKind(STAR);
            case 5:
                return program.stepsOfKind(OTHER);
            case 6:
                return survey.neededSteps(program);
            case 7:
                return survey.greatestDepth(program);
            case 8:
                return history.kept;
            case 9:
                return filledShelves();
            case 10:
                return tape.length;
            case 11:
                return seeker.visits;
            case 12:
                return seeker.foundLength;
            default:
                return NONE;
        }
    }

    public int node(int node, int what) throws NoSuchElementException {
        if (!program.has(node) || what < 0 || what > 6) {
            throw new NoSuchElementException();
        }
        switch (what) {
            case 0:
                return program.isBase(node) ? NONE : program.left[node];
            case 1:
                return program.isBase(node) ? NONE : program.right[node];
            case 2:
                return program.kind(node);
            case 3:
                survey.measureDepths(program);
                return survey.depth[node];
            case 4:
                survey.markNeeded(program);
                return survey.needed[node] ? 1 : 0;
            case 5:
                exponents.measure(program);
                return exponents.firstAlike(node);
            default:
                return program.uses(node);
        }
    }

    public long exponent(int node, int base) {
        if (!program.has(node) || base < 0 || base >= program.bases) {
            return NONE;
        }
        exponents.measure(program);
        return exponents.of(node, base);
    }

    public int wanted(int k) {
        return k >= 0 && k < program.wantCount ? program.wants[k] : NONE;
    }

    public int run(int node, int m, int x0, int x1, int x2, int x3) {
        if (!program.has(node) || m < 2 || m > GREATEST_MODULUS) {
            return NONE;
        }
        residues[0] = Math.floorMod(x0, m);
        residues[1] = Math.floorMod(x1, m);
        residues[2] = Math.floorMod(x2, m);
        residues[3] = Math.floorMod(x3, m);
        for (int step = program.bases; step <= node; step++) {
            long product = (long) residues[program.left[step]] * residues[program.right[step]];
            residues[step] = (int) (product % m);
        }
        return residues[node];
    }

    // ---- programs

    public int add(int left, int right) {
        if (!program.has(left) || !program.has(right) || program.steps >= MOST_STEPS) {
            return NONE;
        }
        exponents.measure(program);
        if (!exponents.fit(left, right)) {
            return REFUSED;
        }
        history.remember(program);
        return program.append(left, right);
    }

    public int want(int k, int node) {
        if (k < 0 || k > program.wantCount || k >= MOST_WANTS || !program.has(node)) {
            return NONE;
        }
        history.remember(program);
        program.wants[k] = node;
        program.wantCount = Math.max(program.wantCount, k + 1);
        return program.wantCount;
    }

    public int prune() {
        survey.markNeeded(program);
        for (int node = 0; node < program.size(); node++) {
            becomes[node] = program.isBase(node) || survey.needed[node] ? node : NONE;
        }
        return dropSteps();
    }

    public int fold() {
        exponents.measure(program);
        for (int node = 0; node < program.size(); node++) {
            becomes[node] = exponents.firstAlike(node);
        }
        return dropSteps();
    }

    public int dual() {
        return turner.turn(program, draft) ? adopt(draft) : NONE;
    }

    public int dualLong() {
        return turner.turn(program, draft) ? draft.steps : NONE;
    }

    public int sequence(int n, int a, int b, int c, int d) {
        descent.tell(a, b, c, d);
        return descent.build(n, draft) ? adopt(draft) : NONE;
    }

    public int vector(int n, int a, int b, int c, int d) {
        descent.tell(a, b, c, d);
        return descent.build(n, spare) && turner.turn(spare, draft) ? adopt(draft) : NONE;
    }

    public int save(int shelf) {
        if (shelf < 0 || shelf >= SHELVES) {
            return NONE;
        }
        shelves[shelf].copyFrom(program);
        filled[shelf] = true;
        return program.steps;
    }

    public int load(int shelf) {
        return holds(shelf) ? adopt(shelves[shelf]) : NONE;
    }

    public int same(int shelf) {
        if (!holds(shelf)) {
            return NONE;
        }
        exponents.measure(program);
        shelfExponents.measure(shelves[shelf]);
        return comesToTheSame(shelves[shelf]) ? 1 : 0;
    }

    public int undo() {
        return history.takeBack(program);
    }

    // ---- chains for a number

    public int method(int n, int method) {
        return numbers.make(n, method) ? numbers.size - 1 : NONE;
    }

    public int chain(int n, int method, int k) {
        if (!numbers.make(n, method)) {
            return NONE;
        }
        return k >= 0 && k < numbers.size ? numbers.row[k] : REFUSED;
    }

    public int best(int n) {
        int least = NONE;
        int leastSize = 0;
        for (int method = 0; method < METHODS; method++) {
            if (numbers.make(n, method) && (least == NONE || numbers.size < leastSize)) {
                least = method;
                leastSize = numbers.size;
            }
        }
        return least;
    }

    public int star(int n, int method) {
        if (!numbers.make(n, method)) {
            return NONE;
        }
        return numbers.eachIsOfTheOneAhead() ? 1 : 0;
    }

    public int lower(int n, int which) {
        return n >= 1 && n <= GREATEST_NUMBER && which >= 0 && which <= 2 ? bound(n, which) : NONE;
    }

    public int search(int n, int budget) {
        if (n < 1 || n > GREATEST_SOUGHT || budget < 1 || budget > GREATEST_BUDGET) {
            return NONE;
        }
        return seeker.seek(n, budget) ? seeker.foundLength : REFUSED;
    }

    public int found(int k) {
        return k >= 0 && k <= seeker.foundLength ? seeker.row[k] : NONE;
    }

    public int isChain(int n, int a, int b, int c, int d, int e) {
        if (n < 1 || n > 6) {
            return NONE;
        }
        int[] row = {1, a, b, c, d, e};
        for (int k = 1; k < n; k++) {
            if (row[k] <= row[k - 1] || !isSumOfTwoAhead(row, k)) {
                return 0;
            }
        }
        return 1;
    }

    /** Makes a program the one at hand, as a thing that can be taken back. */
    private int adopt(Program next) {
        history.remember(program);
        program.copyFrom(next);
        return program.steps;
    }

    private int dropSteps() {
        draft.copyFrom(program);
        int gone = draft.compact(becomes);
        if (gone > 0) {
            adopt(draft);
        }
        return gone;
    }

    private boolean holds(int shelf) {
        return shelf >= 0 && shelf < SHELVES && filled[shelf];
    }

    private int filledShelves() {
        int held = 0;
        for (int shelf = 0; shelf < SHELVES; shelf++) {
            if (filled[shelf]) {
                held++;
            }
        }
        return held;
    }

    private boolean comesToTheSame(Program shelved) {
        if (program.bases != shelved.bases || program.wantCount != shelved.wantCount) {
            return false;
        }
        for (int k = 0; k < program.wantCount; k++) {
            for (int base = 0; base < program.bases; base++) {
                long mine = exponents.of(program.wants[k], base);
                if (mine != shelfExponents.of(shelved.wants[k], base)) {
                    return false;
                }
            }
        }
        return true;
    }

    private static boolean isSumOfTwoAhead(int[] row, int k) {
        for (int i = 0; i < k; i++) {
            for (int j = 0; j <= i; j++) {
                if ((long) row[i] + row[j] == row[k]) {
                    return true;
                }
            }
        }
        return false;
    }

    private static int highestBitOf(int n) {
        return 31 - Integer.numberOfLeadingZeros(n);
    }

    private static int bound(int n, int which) {
        int halvings = highestBitOf(n);
        int ones = Integer.bitCount(n);
        if (which == 0) {
            return halvings;
        }
        if (which == 1) {
            return halvings + (ones <= 2 ? ones - 1 : ones <= 4 ? 2 : 3);
        }
        return ones == 1 ? halvings : halvings + 1;
    }

    /** Bases, then steps, in one numbering, and wants. */
    private static final class Program {
        final int[] left = new int[MOST_NODES];
        final int[] right = new int[MOST_NODES];
        final int[] wants = new int[MOST_WANTS];
        int bases;
        int steps;
        int wantCount;

        int size() {
            return bases + steps;
        }

        boolean has(int node) {
            return node >= 0 && node < size();
        }

        boolean isBase(int node) {
            return node < bases;
        }

        void begin(int baseCount) {
            bases = baseCount;
            steps = 0;
            wantCount = 0;
        }

        int append(int leftNode, int rightNode) {
            if (steps >= MOST_STEPS) {
                return NONE;
            }
            int node = size();
            left[node] = leftNode;
            right[node] = rightNode;
            steps++;
            return node;
        }

        void copyFrom(Program from) {
            bases = from.bases;
            steps = from.steps;
            wantCount = from.wantCount;
            System.arraycopy(from.left, 0, left, 0, from.size());
            System.arraycopy(from.right, 0, right, 0, from.size());
            System.arraycopy(from.wants, 0, wants, 0, from.wantCount);
        }

        int kind(int node) {
            if (isBase(node)) {
                return BASE;
            }
            if (left[node] == right[node]) {
                return DOUBLING;
            }
            return left[node] == node - 1 || right[node] == node - 1 ? STAR : OTHER;
        }

        int stepsOfKind(int kind) {
            int found = 0;
            for (int step = bases; step < size(); step++) {
                if (kind(step) == kind) {
                    found++;
                }
            }
            return found;
        }

        int uses(int node) {
            int uses = 0;
            for (int step = bases; step < size(); step++) {
                uses += (left[step] == node ? 1 : 0) + (right[step] == node ? 1 : 0);
            }
            return uses;
        }

        /**
         * Drops steps: of a node that stays the row holds the node itself, of one that goes the node
         * ahead that stands for it, or NONE if nothing that stays is of it. The row is turned into
         * the new numbers on the way.
         */
        int compact(int[] becomes) {
            int size = size();
            int next = bases;
            for (int node = bases; node < size; node++) {
                int standIn = becomes[node];
                if (standIn == node) {
                    left[next] = becomes[left[node]];
                    right[next] = becomes[right[node]];
                    becomes[node] = next;
                    next++;
                } else if (standIn != NONE) {
                    becomes[node] = becomes[standIn];
                }
            }
            for (int k = 0; k < wantCount; k++) {
                wants[k] = becomes[wants[k]];
            }
            steps = next - bases;
            return size - next;
        }
    }

    /** The latest programs, oldest first, in rows that go round. */
    private static final class History {
        private final Program[] past = new Program[MOST_TAKEN_BACK];
        private int oldest;
        int kept;

        History() {
            for (int i = 0; i < MOST_TAKEN_BACK; i++) {
                past[i] = new Program();
            }
        }

        void remember(Program program) {
            if (kept == MOST_TAKEN_BACK) {
                oldest = (oldest + 1) % MOST_TAKEN_BACK;
                kept--;
            }
            past[(oldest + kept) % MOST_TAKEN_BACK].copyFrom(program);
            kept++;
        }

        int takeBack(Program into) {
            if (kept == 0) {
                return NONE;
            }
            kept--;
            into.copyFrom(past[(oldest + kept) % MOST_TAKEN_BACK]);
            return kept;
        }
    }

    /** What can be seen of a program's nodes but for their exponents. */
    private static final class Survey {
        final int[] depth = new int[MOST_NODES];
        final boolean[] needed = new boolean[MOST_NODES];

        void measureDepths(Program program) {
            for (int node = 0; node < program.size(); node++) {
                depth[node] = program.isBase(node)
                        ? 0
                        : 1 + Math.max(depth[program.left[node]], depth[program.right[node]]);
            }
        }

        int greatestDepth(Program program) {
            measureDepths(program);
            int greatest = 0;
            for (int node = 0; node < program.size(); node++) {
                greatest = Math.max(greatest, depth[node]);
            }
            return greatest;
        }

        void markNeeded(Program program) {
            for (int node = 0; node < program.size(); node++) {
                needed[node] = false;
            }
            for (int k = 0; k < program.wantCount; k++) {
                needed[program.wants[k]] = true;
            }
            for (int step = program.size() - 1; step >= program.bases; step--) {
                if (needed[step]) {
                    needed[program.left[step]] = true;
                    needed[program.right[step]] = true;
                }
            }
        }

        int neededSteps(Program program) {
            markNeeded(program);
            int steps = 0;
            for (int step = program.bases; step < program.size(); step++) {
                if (needed[step]) {
                    steps++;
                }
            }
            return steps;
        }
    }

    /** The exponents of a program's nodes, as many places a node as there can be bases. */
    private static final class Exponents {
        private final long[] row = new long[MOST_NODES * MOST_BASES];

        void measure(Program program) {
            for (int node = 0; node < program.size(); node++) {
                if (program.isBase(node)) {
                    measureBase(node);
                } else {
                    measureStep(node, program.left[node], program.right[node]);
                }
            }
        }

        void measureBase(int node) {
            for (int base = 0; base < MOST_BASES; base++) {
                row[node * MOST_BASES + base] = base == node ? 1 : 0;
            }
        }

        void measureStep(int node, int left, int right) {
            for (int base = 0; base < MOST_BASES; base++) {
                row[node * MOST_BASES + base] = of(left, base) + of(right, base);
            }
        }

        long of(int node, int base) {
            return row[node * MOST_BASES + base];
        }

        boolean fit(int left, int right) {
            for (int base = 0; base < MOST_BASES; base++) {
                if (of(left, base) + of(right, base) > GREATEST_EXPONENT) {
                    return false;
                }
            }
            return true;
        }

        int firstAlike(int node) {
            for (int ahead = 0; ahead < node; ahead++) {
                if (alike(ahead, node)) {
                    return ahead;
                }
            }
            return node;
        }

        private boolean alike(int one, int other) {
            for (int base = 0; base < MOST_BASES; base++) {
                if (of(one, base) != of(other, base)) {
                    return false;
                }
            }
            return true;
        }
    }

    private static final class Tape {
        final byte[] bytes = new byte[TAPE_BYTES];
        int length;

        void append(int word) {
            for (int shift = 24; shift >= 0 && length < TAPE_BYTES; shift -= 8) {
                bytes[length] = (byte) (word >> shift);
                length++;
            }
        }
    }

    /** The tokens of a text, one at a time. A sign is a token of its own kind: its byte. */
    private static final class Tokens {
        static final int END = 0;
        static final int WORD = 1;
        static final int NUMBER = 2;
        static final int STRAY = 3;

        private static final int LONGEST = 4;

        private byte[] bytes;
        private int length;
        private int next;
        int kind;
        int place;
        /** A word's letters or a number's worth; NONE if it has more than four signs. */
        int worth;

        void begin(byte[] text, int textLength) {
            bytes = text;
            length = textLength;
            next = 0;
        }

        void advance() {
            while (next < length && (bytes[next] == ' ' || bytes[next] == '\n')) {
                next++;
            }
            place = next;
            worth = NONE;
            if (next >= length) {
                kind = END;
                return;
            }
            byte first = bytes[next];
            if (first >= 'a' && first <= 'z') {
                kind = WORD;
                takeRun('a', 'z', 0, 256);
            } else if (first >= '0' && first <= '9') {
                kind = NUMBER;
                takeRun('0', '9', '0', 10);
            } else {
                kind = first == ';' || first == '=' || first == '*' || first == '^' ? first : STRAY;
                next++;
            }
        }

        /** Takes the bytes from low to high that stand together, as digits of a radix. */
        private void takeRun(int low, int high, int zero, int radix) {
            int sum = 0;
            while (next < length && bytes[next] >= low && bytes[next] <= high) {
                sum = sum * radix + (bytes[next] - zero);
                next++;
            }
            if (next - place <= LONGEST) {
                worth = sum;
            }
        }
    }

    /**
     * Reads a text into a program. Each part answers 0 or the fault, 8 * place + kind; as a text is
     * read from its first byte on, the first fault met is the one whose place is least.
     */
    private static final class TextReader {
        private static final int UNEXPECTED = 1;
        private static final int GIVEN_TWICE = 2;
        private static final int UNKNOWN = 3;
        private static final int BAD_NUMBER = 4;
        private static final int TOO_MANY = 5;
        private static final int TOO_GREAT = 6;

        /** The words that are no names, as the tokens pack them. */
        private static final int BASE_WORD = 'b' << 24 | 'a' << 16 | 's' << 8 | 'e';
        private static final int WANT_WORD = 'w' << 24 | 'a' << 16 | 'n' << 8 | 't';

        private static final int NAMELESS = 0;

        private final Tokens tokens = new Tokens();
        private final Exponents exponents = new Exponents();
        private final int[] names = new int[MOST_NODES];
        private Program program;

        int read(byte[] text, int length, Program into) {
            program = into;
            program.begin(0);
            tokens.begin(text, length);
            tokens.advance();
            int fault = isWord(BASE_WORD) ? readBases() : fault(UNEXPECTED);
            // A statement has bytes of its own, so there are fewer of them than bytes.
            for (int statement = 0; statement <= length && fault == 0; statement++) {
                tokens.advance();
                if (isWord(WANT_WORD)) {
                    return readWants();
                }
                fault = readStatement();
            }
            return fault;
        }

        private int readBases() {
            for (int count = 0; count <= MOST_BASES; count++) {
                tokens.advance();
                if (tokens.kind == ';' && count > 0) {
                    return 0;
                }
                int fault = newNameFault();
                if (fault != 0) {
                    return fault;
                }
                if (count == MOST_BASES) {
                    return fault(TOO_MANY);
                }
                names[count] = tokens.worth;
                exponents.measureBase(count);
                program.bases++;
            }
            return 0;
        }

        private int readWants() {
            for (int count = 0; count <= MOST_WANTS; count++) {
                tokens.advance();
                if (tokens.kind == ';' && count > 0) {
                    return readEnd();
                }
                int fault = knownNameFault();
                if (fault != 0) {
                    return fault;
                }
                if (count == MOST_WANTS) {
                    return fault(TOO_MANY);
                }
                program.wants[count] = nodeNamed(tokens.worth);
                program.wantCount++;
            }
            return 0;
        }

        private int readEnd() {
            tokens.advance();
            return tokens.kind == Tokens.END ? 0 : fault(UNEXPECTED);
        }

        private int readStatement() {
            int fault = newNameFault();
            if (fault != 0) {
                return fault;
            }
            int name = tokens.worth;
            tokens.advance();
            if (tokens.kind != '=') {
                return fault(UNEXPECTED);
            }
            tokens.advance();
            fault = knownNameFault();
            if (fault != 0) {
                return fault;
            }
            int node = nodeNamed(tokens.worth);
            tokens.advance();
            if (tokens.kind == '*') {
                return readProduct(name, node);
            }
            return tokens.kind == '^' ? readPower(name, node) : fault(UNEXPECTED);
        }

        private int readProduct(int name, int left) {
            tokens.advance();
            int fault = knownNameFault();
            if (fault != 0) {
                return fault;
            }
            int right = nodeNamed(tokens.worth);
            fault = statementEndFault(1);
            if (fault != 0) {
                return fault;
            }
            return addStep(left, right) ? giveName(name) : fault(TOO_GREAT);
        }

        private int readPower(int name, int node) {
            tokens.advance();
            if (tokens.kind != Tokens.NUMBER) {
                return fault(UNEXPECTED);
            }
            int number = tokens.worth;
            if (number < 2) {
                return fault(BAD_NUMBER);
            }
            int highest = highestBitOf(number);
            int fault = statementEndFault(highest + Integer.bitCount(number) - 1);
            if (fault != 0) {
                return fault;
            }
            int there = node;
            for (int bit = highest - 1; bit >= 0; bit--) {
                if (!addStep(there, there)) {
                    return fault(TOO_GREAT);
                }
                there = program.size() - 1;
                if ((number >> bit & 1) == 1) {
                    if (!addStep(there, node)) {
                        return fault(TOO_GREAT);
                    }
                    there = program.size() - 1;
                }
            }
            return giveName(name);
        }

        private int statementEndFault(int moreSteps) {
            tokens.advance();
            if (tokens.kind != ';') {
                return fault(UNEXPECTED);
            }
            return program.steps + moreSteps > MOST_STEPS ? fault(TOO_MANY) : 0;
        }

        private boolean addStep(int left, int right) {
            if (!exponents.fit(left, right)) {
                return false;
            }
            int node = program.append(left, right);
            if (node == NONE) {
                return false;
            }
            exponents.measureStep(node, left, right);
            names[node] = NAMELESS;
            return true;
        }

        private int giveName(int name) {
            names[program.size() - 1] = name;
            return 0;
        }

        private int newNameFault() {
            if (!isName()) {
                return fault(UNEXPECTED);
            }
            return nodeNamed(tokens.worth) == NONE ? 0 : fault(GIVEN_TWICE);
        }

        private int knownNameFault() {
            if (!isName()) {
                return fault(UNEXPECTED);
            }
            return nodeNamed(tokens.worth) == NONE ? fault(UNKNOWN) : 0;
        }

        private int nodeNamed(int name) {
            for (int node = 0; node < program.size(); node++) {
                if (names[node] == name) {
                    return node;
                }
            }
            return NONE;
        }

        private boolean isWord(int word) {
            return tokens.kind == Tokens.WORD && tokens.worth == word;
        }

        private boolean isName() {
            return tokens.kind == Tokens.WORD && tokens.worth != NONE
                    && tokens.worth != BASE_WORD && tokens.worth != WANT_WORD;
        }

        private int fault(int kind) {
            return 8 * tokens.place + kind;
        }
    }

    /** Turns a program round. */
    private static final class Turner {
        /** What each node of the program came to in the dual; NONE: nothing (so far). */
        private final int[] came = new int[MOST_NODES];

        boolean turn(Program from, Program into) {
            into.begin(from.wantCount);
            if (from.wantCount == 0) {
                return false;
            }
            for (int node = from.size() - 1; node >= 0; node--) {
                came[node] = NONE;
                if (!gatherWants(from, node, into) || !gatherSteps(from, node, into)) {
                    return false;
                }
            }
            return wantBases(from, into);
        }

        private boolean gatherWants(Program from, int node, Program into) {
            for (int k = 0; k < from.wantCount; k++) {
                if (from.wants[k] == node && !join(node, k, into)) {
                    return false;
                }
            }
            return true;
        }

        private boolean gatherSteps(Program from, int node, Program into) {
            for (int step = Math.max(node + 1, from.bases); step < from.size(); step++) {
                if (came[step] == NONE) {
                    continue;
                }
                if (from.left[step] == node && !join(node, came[step], into)) {
                    return false;
                }
                if (from.right[step] == node && !join(node, came[step], into)) {
                    return false;
                }
            }
            return true;
        }

        private boolean join(int node, int term, Program into) {
            came[node] = came[node] == NONE ? term : into.append(came[node], term);
            return came[node] != NONE;
        }

        private boolean wantBases(Program from, Program into) {
            for (int base = 0; base < from.bases; base++) {
                if (came[base] == NONE) {
                    return false;
                }
                into.wants[base] = came[base];
            }
            into.wantCount = from.bases;
            return true;
        }
    }

    /** Goes down from several numbers to 1, and makes the program that comes up to them. */
    private static final class Descent {
        private final int[] told = new int[MOST_WANTS];
        /** The set, rising from 1 on: the place of a number is its node. */
        private final int[] set = new int[MOST_STEPS + 1];
        /** Of each number that is done the greater one of the two that it is of. */
        private final int[] greater = new int[MOST_STEPS + 1];
        private int size;

        void tell(int a, int b, int c, int d) {
            told[0] = a;
            told[1] = b;
            told[2] = c;
            told[3] = d;
        }

        boolean build(int n, Program into) {
            if (n < 1 || n > MOST_WANTS) {
                return false;
            }
            size = 0;
            put(1);
            for (int k = 0; k < n; k++) {
                if (told[k] < 1 || told[k] > GREATEST_NUMBER) {
                    return false;
                }
                put(told[k]);
            }
            if (!descend()) {
                return false;
            }
            write(n, into);
            return true;
        }

        private boolean descend() {
            int at = size - 1;
            for (int done = 0; done < MOST_STEPS && at > 0; done++) {
                int f = set[at];
                greater[at] = greaterPart(f, set[at - 1]);
                int lesser = f - greater[at];
                int sizeBefore = size;
                if (!put(greater[at]) || !put(lesser)) {
                    return false;
                }
                // What came in below f moves f and all above it up.
                at += size - sizeBefore - 1;
            }
            return at == 0;
        }

        private static int greaterPart(int f, int g) {
            if (f <= 2 * g) {
                return g;
            }
            return f % 2 == 0 ? f / 2 : f - 1;
        }

        /** Whether the number is in the set then. */
        private boolean put(int number) {
            int at = placeOf(number);
            if (at < size && set[at] == number) {
                return true;
            }
            if (size > MOST_STEPS) {
                return false;
            }
            for (int i = size; i > at; i--) {
                set[i] = set[i - 1];
                greater[i] = greater[i - 1];
            }
            set[at] = number;
            size++;
            return true;
        }

        /** The place of the number, or that at which it would come in. */
        private int placeOf(int number) {
            int at = 0;
            while (at < size && set[at] < number) {
                at++;
            }
            return at;
        }

        private void write(int n, Program into) {
            into.begin(1);
            for (int i = 1; i < size; i++) {
                into.append(placeOf(greater[i]), placeOf(set[i] - greater[i]));
            }
            for (int k = 0; k < n; k++) {
                into.wants[k] = placeOf(told[k]);
            }
            into.wantCount = n;
        }
    }

    /** A chain for a number by a method: its numbers, rising, each once. */
    private static final class Chain {
        /** No method comes near to so many numbers for one of four digits. */
        private static final int ROOM = 64;
        private static final int DEEPEST = 40;

        final int[] row = new int[ROOM];
        int size;

        boolean make(int n, int method) {
            if (n < 1 || n > GREATEST_NUMBER || method < 0 || method >= METHODS) {
                return false;
            }
            size = 0;
            put(1);
            switch (method) {
                case 0:
                    goBinary(n);
                    break;
                case 1:
                    goRight(n);
                    break;
                case 2:
                    goFactor(this, n, 1, 0);
                    break;
                default:
                    goThrees(n);
                    break;
            }
            return true;
        }

        private void goBinary(int n) {
            int there = 1;
            for (int bit = highestBitOf(n) - 1; bit >= 0; bit--) {
                there = 2 * there;
                put(there);
                if ((n >> bit & 1) == 1) {
                    there = there + 1;
                    put(there);
                }
            }
        }

        private void goRight(int n) {
            int sum = 0;
            for (int bit = 0; bit <= highestBitOf(n); bit++) {
                put(1 << bit);
                if ((n >> bit & 1) == 1) {
                    sum += 1 << bit;
                    put(sum);
                }
            }
        }

        /** Puts down the chain of n, each number so many times as great. */
        private static void goFactor(Chain chain, int n, int times, int depth) {
            if (n <= 1 || depth > DEEPEST) {
                return;
            }
            int prime = leastPrimeOf(n);
            if (prime == n) {
                goFactor(chain, n - 1, times, depth + 1);
                chain.put(times * n);
            } else {
                goFactor(chain, prime, times, depth + 1);
                goFactor(chain, n / prime, times * prime, depth + 1);
            }
        }

        private static int leastPrimeOf(int n) {
            for (int p = 2; p * p <= n; p++) {
                if (n % p == 0) {
                    return p;
                }
            }
            return n;
        }

        private void goThrees(int n) {
            if (n < 4) {
                goBinary(n);
                return;
            }
            put(2);
            put(3);
            int shift = highestBitOf(n) / 2 * 2;
            int there = n >> shift;
            for (shift -= 2; shift >= 0; shift -= 2) {
                put(2 * there);
                put(4 * there);
                there = n >> shift;
                put(there);
            }
        }

        /** Every method comes to its numbers in rising order, but for those that are there already. */
        private void put(int number) {
            if (size < ROOM && (size == 0 || number > row[size - 1])) {
                row[size] = number;
                size++;
            }
        }

        boolean eachIsOfTheOneAhead() {
            for (int k = 1; k < size; k++) {
                if (!standsAheadOf(k, row[k] - row[k - 1])) {
                    return false;
                }
            }
            return true;
        }

        private boolean standsAheadOf(int k, int number) {
            for (int i = 0; i < k; i++) {
                if (row[i] == number) {
                    return true;
                }
            }
            return false;
        }
    }

    /** The search for a shortest chain in which each number is of the one ahead. */
    private static final class Seeker {
        private static final int BACK = 0;
        private static final int FOUND = 1;
        private static final int GIVEN_UP = 2;

        /** The binary chain of a number of eleven bits is no longer than 20, so none is sought beyond. */
        private static final int LONGEST = 20;

        final int[] row = new int[LONGEST + 1];
        int visits;
        int foundLength = NONE;
        private int sought;
        private int budget;
        /** How many numbers may stand behind 1 for now; it keeps the depth of visits low. */
        private int limit;

        boolean seek(int n, int visitsAtMost) {
            sought = n;
            budget = visitsAtMost;
            visits = 0;
            foundLength = NONE;
            row[0] = 1;
            int end = BACK;
            for (int length = bound(n, 1); length <= LONGEST && end == BACK; length++) {
                limit = length;
                end = visit(this, 0);
            }
            return end == FOUND;
        }

        /** Goes on from the number at place k, the last one so far. */
        private static int visit(Seeker seeker, int k) {
            if (seeker.visits >= seeker.budget) {
                return GIVEN_UP;
            }
            seeker.visits++;
            int[] row = seeker.row;
            int last = row[k];
            if (last == seeker.sought) {
                seeker.foundLength = k;
                return FOUND;
            }
            if (k >= seeker.limit || (long) last << seeker.limit - k < seeker.sought) {
                return BACK;
            }
            int end = BACK;
            for (int i = k; i >= 0 && end == BACK; i--) {
                if (last + row[i] <= seeker.sought) {
                    row[k + 1] = last + row[i];
                    end = visit(seeker, k + 1);
                }
            }
            return end;
        }
    }
}
