/** Promises 1 to 3: a new object, the tape, and texts that are read. */
public final class TapeTest {
    public static void main(String[] args) {
        newObject();
        tapeFills();
        textTakesTheTape();
        bytesComeHighestFirst();
        programsOfTexts();
        Due.end();
    }

    private static void newObject() {
        PowerChains x = new PowerChains();
        for (int what = 0; what <= 11; what++) {
            Due.is("new: count(" + what + ")", x.count(what), 0);
        }
        Due.is("new: count(12)", x.count(12), -1);
        Due.is("new: node(0, 0)", Due.node(x, 0, 0), Due.NO_SUCH);
        Due.is("new: exponent(0, 0)", x.exponent(0, 0), -1);
        Due.is("new: wanted(0)", x.wanted(0), -1);
        Due.is("new: found(0)", x.found(0), -1);
        for (int shelf = 0; shelf < 3; shelf++) {
            Due.is("new: load(" + shelf + ")", x.load(shelf), -1);
            Due.is("new: same(" + shelf + ")", x.same(shelf), -1);
        }
        Due.is("new: undo()", x.undo(), -1);
        Due.is("new: dualLong()", x.dualLong(), -1);
        PowerChains y = Due.of("base a; want a;");
        Due.is("another object stays new", x.count(0), 0);
        Due.is("the one that read", y.count(0), 1);
    }

    private static void tapeFills() {
        PowerChains x = new PowerChains();
        for (int i = 1; i <= 25; i++) {
            Due.is("feed " + i, x.feed(0, 0, 0, 0, 0), 20 * i);
        }
        Due.is("feed 26", x.feed(0, 0, 0, 0, 0), -1);
        Due.is("count(10) of a full tape", x.count(10), 500);
        Due.is("text(501)", x.text(501), -1);
        Due.is("text(-1)", x.text(-1), -1);
        Due.is("text(MIN)", x.text(Integer.MIN_VALUE), -1);
        Due.is("text(MAX)", x.text(Integer.MAX_VALUE), -1);
        Due.is("count(10) stays", x.count(10), 500);
        Due.is("text(500) of zeros", x.text(500), -3);
        Due.is("count(10) of an empty tape", x.count(10), 0);
        Due.is("feed again", x.feed(0, 0, 0, 0, 0), 20);
    }

    private static void textTakesTheTape() {
        PowerChains x = new PowerChains();
        x.feed(0x62617365, 0x20613B77, 0x616E7420, 0x613B2121, 0x21212121);
        Due.is("text(14) ends with the ;", x.text(14), 0);
        Due.is("the rest of the tape is gone", x.count(10), 0);
        Due.is("text(1) of an empty tape", x.text(1), -1);
        Due.is("count(8)", x.count(8), 1);
        Due.text(x, "base a b; want b;");
        Due.is("count(8)", x.count(8), 2);
        // A text may end within what would else be a word, a number or a blank.
        x.feed(0x62617365, 0x20616263, 0, 0, 0);
        Due.is("text(6) of base abc", x.text(6), -2 - (8 * 6 + 1));
        x.feed(0x62617365, 0x20613B74, 0x3D615E31, 0x30303030, 0);
        Due.is("text(14) of ^10000", x.text(14), -2 - (8 * 14 + 1));
        x.feed(0x62617365, 0x20202020, 0x20202020, 0, 0);
        Due.is("text(6) of base and blanks", x.text(6), -2 - (8 * 6 + 1));
        x.feed(0, 0, 0, 0, 0);
        Due.is("text(0)", x.text(0), -3);
        Due.is("a fault empties the tape", x.count(10), 0);
        Due.is("a fault is no thing done", x.count(8), 2);
        Due.is("a fault leaves the program", x.count(0), 2);
        Due.wants(x, 1);
    }

    private static void bytesComeHighestFirst() {
        PowerChains x = new PowerChains();
        // base z;y=z*z;want y; in twenty bytes, written out.
        Due.is("feed", x.feed(0x62617365, 0x207A3B79, 0x3D7A2A7A, 0x3B77616E, 0x7420793B), 20);
        Due.is("text(20)", x.text(20), 1);
        Due.wants(x, 1);
        // The highest bit of a number is a sign: a byte of 128 to 255 begins no token.
        x.feed(0x62617365, 0x20613BFF, 0, 0, 0);
        Due.is("a byte of 255", x.text(20), -2 - (8 * 7 + 1));
        x.feed(0x80000000, 0, 0, 0, 0);
        Due.is("a byte of 128", x.text(20), -3);
    }

    private static void programsOfTexts() {
        PowerChains x = Due.of("base a;want a;");
        Due.is("steps", x.count(1), 0);
        Due.wants(x, 0);

        x = Due.of("  \n base\na b\n\nc dddd ;u=a*b ; v = u ^ 13;w= v*dddd;want w a w v ;\n ");
        Due.is("bases", x.count(0), 4);
        Due.is("steps", x.count(1), 7);
        Due.wants(x, 10, 0, 10, 9);
        Due.look(x, 4, 0, 1);
        // 13 is 1101: 2, 3, 6, 12, 13 of u.
        Due.look(x, 5, 4, 4);
        Due.look(x, 6, 5, 4);
        Due.look(x, 7, 6, 6);
        Due.look(x, 8, 7, 7);
        Due.look(x, 9, 8, 4);
        Due.look(x, 10, 9, 3);
        Due.exponents(x, 10, 13, 13, 0, 1);

        x = Due.of("base a;t=a^2;want t;");
        Due.is("steps of ^ 2", x.count(1), 1);
        x = Due.of("base a;t=a^0002;want t;");
        Due.is("steps of ^ 0002", x.count(1), 1);
        x = Due.of("base a;t=a^9999;want t;");
        Due.is("steps of ^ 9999", x.count(1), 13 + 7);
        Due.exponents(x, 20, 9999);
        x = Due.of("base a;wan=a*a;bas=wan*a;want wan bas;");
        Due.wants(x, 1, 2);
        // The steps within a power have no name, and its last one has.
        Due.fault("base a;t=a^4;u=t*v;want u;", 17, 3);
        x = Due.of("base a;t=a^4;u=t*t;want u;");
        Due.exponents(x, 3, 8);
        // The base may stand on either side.
        x = Due.of("base a b;t=b*a;u=t*b;want u;");
        Due.look(x, 2, 1, 0);
        Due.look(x, 3, 2, 1);
    }
}
