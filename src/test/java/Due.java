/** Collects the calls of a test whose answer is not the one that is due. */
final class Due {
    private static int asked = 0;
    private static int wrong = 0;
    /** What the answers asked for now are of, told ahead of each that is wrong. */
    private static String about = "";

    private Due() {
    }

    static void is(String call, long got, long want) {
        asked++;
        if (got != want) {
            wrong++;
            System.out.println(about + call + " answered " + got + ", due is " + want);
        }
    }

    static void about(String what) {
        about = what;
    }

    static int asked() {
        return asked;
    }

    /** All that is seen of a program: bases, the two nodes of each step, and wants. */
    static String picture(PowerChains x) {
        StringBuilder picture = new StringBuilder("bases ").append(x.count(0));
        for (int node = x.count(0); node < x.count(0) + x.count(1); node++) {
            picture.append(", ").append(x.node(node, 0)).append('*').append(x.node(node, 1));
        }
        for (int k = 0; k < x.count(2); k++) {
            picture.append(k == 0 ? " wants " : " ").append(x.wanted(k));
        }
        return picture.toString();
    }

    static void picture(PowerChains x, String want) {
        String got = picture(x);
        is("the program is [" + got + "], due is [" + want + "]: 1 if it is;", got.equals(want) ? 1 : 0, 1);
    }

    /** The answer of node(), or NO_SUCH if it throws NoSuchElementException. */
    static final long NO_SUCH = Long.MIN_VALUE;

    static long node(PowerChains x, int node, int what) {
        try {
            return x.node(node, what);
        } catch (java.util.NoSuchElementException e) {
            return NO_SUCH;
        }
    }

    /** One node's look: what 0 to 6, in order. */
    static void look(PowerChains x, int node, long... want) {
        for (int what = 0; what < want.length; what++) {
            is("node(" + node + ", " + what + ")", node(x, node, what), want[what]);
        }
    }

    static void exponents(PowerChains x, int node, long... want) {
        for (int base = 0; base < want.length; base++) {
            is("exponent(" + node + ", " + base + ")", x.exponent(node, base), want[base]);
        }
        is("exponent(" + node + ", " + want.length + ")", x.exponent(node, want.length), -1);
    }

    static void wants(PowerChains x, long... want) {
        is("count(2)", x.count(2), want.length);
        for (int k = 0; k < want.length; k++) {
            is("wanted(" + k + ")", x.wanted(k), want[k]);
        }
        is("wanted(" + want.length + ")", x.wanted(want.length), -1);
    }

    /** Feeds a text, filled up with blanks, and reads it. */
    static int text(PowerChains x, String text) {
        return text(x, text.getBytes(java.nio.charset.StandardCharsets.ISO_8859_1));
    }

    static int text(PowerChains x, byte[] bytes) {
        for (int at = 0; at < bytes.length; at += 20) {
            x.feed(word(bytes, at), word(bytes, at + 4), word(bytes, at + 8), word(bytes, at + 12),
                    word(bytes, at + 16));
        }
        return x.text(bytes.length);
    }

    private static int word(byte[] bytes, int at) {
        int word = 0;
        for (int i = at; i < at + 4; i++) {
            word = word << 8 | (i < bytes.length ? bytes[i] & 255 : ' ');
        }
        return word;
    }

    /** A new object with the program of a text. */
    static PowerChains of(String text) {
        PowerChains x = new PowerChains();
        int steps = text(x, text);
        if (steps < 0) {
            is("text of \"" + text + "\" (0: read)", steps, 0);
        }
        return x;
    }

    static void fault(String text, int place, int kind) {
        is("text of \"" + text + "\"", text(new PowerChains(), text), -2 - (8 * place + kind));
    }

    static void end() {
        System.out.println(asked + " answers asked, " + wrong + " not as due");
        if (wrong != 0 || asked == 0) {
            System.exit(1);
        }
    }
}
