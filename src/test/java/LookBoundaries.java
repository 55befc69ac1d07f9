/** The boundary cases of what is seen of a program, sentence by sentence: terms (2.), promises 4 to 8. */
final class LookBoundaries {
    private static final int MAX = Integer.MAX_VALUE;
    private static final int MIN = Integer.MIN_VALUE;

    private LookBoundaries() {
    }

    static void all() {
        calls();
        sixtyFourNodes();
        kinds();
        depthNeedAlike();
        runs();
        counts();
        countsOfTheDesk();
        nodes();
        noSuchNodes();
        exponentAndWanted();
        run();
    }

    private static void calls() {
        Sentence.of("What it is", "An object is used for at most 512 calls after it has been made");
        PowerChains x = new PowerChains();
        x.feed(0x62617365, 0x20613B77, 0x616E7420, 0x613B2020, 0x20202020);
        x.text(20);
        for (int call = 3; call <= 511; call += 2) {
            Due.is("call " + call, x.add(0, 0), 1);
            Due.is("call " + (call + 1), x.undo(), 1);
        }
        // The 512th that makes a step more, after 511 of other kinds.
        x = Due.of("base a;want a;");
        for (int call = 3; call <= 511; call++) {
            x.search(5, 10);
        }
        Due.is("call 512", x.add(0, 0), 1);

        Sentence.of("Terms", "The constants: `NONE = -1`: None; refused.");
        Due.is("NONE", PowerChains.NONE, -1);
    }

    /** No program has more nodes: each call goes through all of them. */
    private static void sixtyFourNodes() {
        Sentence.of("Terms", "BASES (0 to 4), then STEPS (60 at most), numbered together as NODES from 0 on, and WANTS (0 to 4)");
        PowerChains x = Due.of("base a b c d;want a b c d;");
        for (int step = 1; step <= 60; step++) {
            x.add(step + 2, step < 4 ? step - 1 : 3);
        }
        long[] counts = {4, 60, 4, 0, 60, 0, 0, 60, 12};
        for (int what = 0; what < counts.length; what++) {
            Due.is("count(" + what + ")", x.count(what), counts[what]);
        }
        Due.look(x, 63, 62, 3, 1, 60, 0, 63, 0);
        Due.is("a 65th node", Due.node(x, 64, 0), Due.NO_SUCH);
        Due.exponents(x, 63, 1, 1, 1, 58);
        Due.is("run", x.run(63, 1_000_000, 2, 3, 5, 1), 30);
        x.want(3, 63);
        Due.is("needed", x.count(6), 60);
        x.save(2);
        Due.is("same", x.same(2), 1);
        Due.is("fold", x.fold(), 0);
        Due.is("prune", x.prune(), 0);
        Due.is("dualLong", x.dualLong(), 60);
        x.want(3, 0);
        Due.is("prune", x.prune(), 60);
        Due.is("a base came to nothing", x.dual(), -1);
        Due.is("load", x.load(2), 60);
        Due.is("dual", x.dual(), 60);
        Due.is("the last want", x.exponent(x.wanted(3), 3), 58);
        x.undo();
        Due.is("run", x.run(63, 1_000_000, 1, 1, 1, -1), 1);
    }

    private static void kinds() {
        Sentence.of("Terms", "A STEP is a DOUBLING (0), if LEFT is RIGHT");
        PowerChains x = Due.of("base a b;c=b*b;d=a*a;e=d*d;want e;");
        Due.is("of the one right ahead", Due.node(x, 2, 2), 0);
        Due.is("of another", Due.node(x, 3, 2), 0);
        Due.is("of a step", Due.node(x, 4, 2), 0);
        Due.is("doublings", x.count(3), 3);
        Due.is("stars", x.count(4), 0);
        // Alike, but two nodes: no doubling.
        x = Due.of("base a;b=a*a;c=a*a;d=b*c;want d;");
        Due.is("of two that are alike", Due.node(x, 3, 2), 1);

        Sentence.of("Terms", "else a STAR (1), if one of them is the NODE right ahead of it");
        x = Due.of("base a b;c=a*b;d=c*a;e=a*d;want e;");
        Due.is("right, a base", Due.node(x, 2, 2), 1);
        Due.is("left", Due.node(x, 3, 2), 1);
        Due.is("right", Due.node(x, 4, 2), 1);
        Due.is("left, a base", Due.node(Due.of("base a b;c=b*a;want c;"), 2, 2), 1);

        Sentence.of("Terms", "else an OTHER one (2)");
        x = Due.of("base a b c;d=a*b;e=a*b;f=d*c;g=c*e;want g;");
        Due.is("bases that aren't right ahead", Due.node(x, 3, 2), 2);
        Due.is("alike to the one right ahead", Due.node(x, 4, 2), 2);
        Due.is("of the one two ahead", Due.node(x, 5, 2), 2);
        Due.is("of the one two ahead, right", Due.node(x, 6, 2), 2);
    }

    private static void depthNeedAlike() {
        Sentence.of("Terms", "DEPTH of a NODE: 0 of a BASE, 1 more than the greater one of LEFT, RIGHT");
        PowerChains x = Due.of("base a b;c=a*a;d=c*c;e=b*d;f=d*b;g=e*c;h=a*b;want h;");
        long[] depths = {0, 0, 1, 2, 3, 3, 4, 1};
        for (int node = 0; node < depths.length; node++) {
            Due.is("node(" + node + ", 3)", Due.node(x, node, 3), depths[node]);
        }
        x = Due.of("base a;want a;");
        for (int step = 1; step <= 60; step++) {
            x.add(step - 1, 0);
        }
        Due.is("of the 60th in a row", Due.node(x, 60, 3), 60);

        Sentence.of("Terms", "NEEDED: WANTS, and LEFT, RIGHT of STEPS that are NEEDED");
        x = Due.of("base a b c;d=a*b;e=d*d;f=e*b;g=f*f;want e;");
        long[] needs = {1, 1, 0, 1, 1, 0, 0};
        for (int node = 0; node < needs.length; node++) {
            Due.is("node(" + node + ", 4)", Due.node(x, node, 4), needs[node]);
        }
        x = Due.of("base a b;c=a*a;want b;");
        Due.is("a base that is wanted", Due.node(x, 1, 4), 1);
        Due.is("a base of a step that isn't needed", Due.node(x, 0, 4), 0);
        Due.is("a step that none wants", Due.node(x, 2, 4), 0);
        x = Due.of("base a b;c=a*b;d=a*a;e=b*b;want c d c e;");
        Due.is("by the second want", Due.node(x, 3, 4), 1);
        Due.is("by the fourth want", Due.node(x, 4, 4), 1);
        // What was needed once may be needed no more: each node, the first and the last one too.
        x = Due.of("base a b;c=a*a;d=c*c;want d;");
        for (int node : new int[] {0, 2, 3}) {
            Due.is("needed: node(" + node + ", 4)", Due.node(x, node, 4), 1);
        }
        x.want(0, 1);
        for (int node : new int[] {0, 2, 3}) {
            Due.is("no more: node(" + node + ", 4)", Due.node(x, node, 4), 0);
        }

        Sentence.of("Terms", "ALIKE are NODES with the same EXPONENTS.");
        x = Due.of("base a b c d;e=a*d;f=d*a;g=a*c;h=e*g;i=f*g;want a;");
        long[] first = {0, 1, 2, 3, 4, 4, 6, 7, 7};
        for (int node = 0; node < first.length; node++) {
            Due.is("node(" + node + ", 5)", Due.node(x, node, 5), first[node]);
        }
    }

    private static void runs() {
        Sentence.of("Terms", "RUN with a modulus M (2 to 1,000,000,000) and numbers x of the BASES");
        PowerChains x = Due.of("base a;b=a*a;want b;");
        Due.is("1", x.run(1, 1, 3, 0, 0, 0), -1);
        Due.is("2", x.run(1, 2, 3, 0, 0, 0), 1);
        Due.is("1,000,000,000", x.run(1, 1_000_000_000, 3, 0, 0, 0), 9);
        Due.is("1,000,000,001", x.run(1, 1_000_000_001, 3, 0, 0, 0), -1);

        Sentence.of("Terms", "a BASE is x modulo M (0 at least)");
        Due.is("below M", x.run(0, 7, 6, 0, 0, 0), 6);
        Due.is("M", x.run(0, 7, 7, 0, 0, 0), 0);
        Due.is("0", x.run(0, 7, 0, 0, 0, 0), 0);
        Due.is("-1", x.run(0, 7, -1, 0, 0, 0), 6);
        Due.is("-M", x.run(0, 7, -7, 0, 0, 0), 0);
        Due.is("-M - 1", x.run(0, 7, -8, 0, 0, 0), 6);
        Due.is("the least int", x.run(0, 1_000_000_000, MIN, 0, 0, 0), 852_516_352);
        Due.is("the greatest int", x.run(0, 1_000_000_000, MAX, 0, 0, 0), 147_483_647);
        Due.is("the least int, modulo 2", x.run(0, 2, MIN, 0, 0, 0), 0);

        Sentence.of("Terms", "a STEP LEFT times RIGHT modulo M");
        Due.is("a product far beyond an int", x.run(1, 1_000_000_000, 999_999_999, 0, 0, 0), 1);
        Due.is("below 0", x.run(1, 1_000_000_000, -2, 0, 0, 0), 4);
        Due.is("M - 1", x.run(1, 10, 3, 0, 0, 0), 9);
        Due.is("M", x.run(1, 9, 3, 0, 0, 0), 0);
        x = Due.of("base a b;c=a*b;d=c*b;want d;");
        Due.is("two bases", x.run(3, 1000, 7, 11, 0, 0), 847);
    }

    private static void counts() {
        Sentence.of("Promise 4", "What 0: BASES, 1: STEPS, 2: WANTS");
        PowerChains x = Due.of("base a b c;d=a*b;e=d^4;want e;");
        Due.is("count(0)", x.count(0), 3);
        Due.is("count(1)", x.count(1), 3);
        Due.is("count(2)", x.count(2), 1);
        x = Due.of("base a;want a a a a;");
        Due.is("count(0)", x.count(0), 1);
        Due.is("count(1)", x.count(1), 0);
        Due.is("count(2)", x.count(2), 4);

        Sentence.of("Promise 4", "3: DOUBLINGS, 4: STARS, 5: OTHERS");
        x = Due.of("base a b c;d=a*a;e=d*b;f=e*c;g=d*a;h=d*b;i=h*h;want i;");
        Due.is("count(3)", x.count(3), 2);
        Due.is("count(4)", x.count(4), 2);
        Due.is("count(5)", x.count(5), 2);
        x = Due.of("base a;want a;");
        Due.is("count(3) without steps", x.count(3), 0);
        Due.is("count(4) without steps", x.count(4), 0);
        Due.is("count(5) without steps", x.count(5), 0);

        Sentence.of("Promise 4", "6: STEPS that are NEEDED");
        x = Due.of("base a b;c=a*a;d=c*c;e=d*b;want d b;");
        Due.is("bases don't count", x.count(6), 2);
        x.want(1, 4);
        Due.is("all", x.count(6), 3);
        x.want(0, 0);
        x.want(1, 0);
        Due.is("none", x.count(6), 0);

        Sentence.of("Promise 4", "7: the greatest DEPTH of a NODE (0 without)");
        Due.is("without nodes", new PowerChains().count(7), 0);
        Due.is("without steps", Due.of("base a b;want a;").count(7), 0);
        Due.is("not the last one's", Due.of("base a;b=a^8;c=a*a;want c;").count(7), 3);

        Sentence.of("Promise 4", "NONE for another what.");
        for (int what : new int[] {-1, 13, 14, 100, MAX, MIN}) {
            Due.is("count(" + what + ")", x.count(what), -1);
            Due.is("new: count(" + what + ")", new PowerChains().count(what), -1);
        }
    }

    private static void countsOfTheDesk() {
        Sentence.of("Promise 4", "8: what can be taken back");
        PowerChains x = Due.of("base a;want a;");
        for (int i = 1; i <= 14; i++) {
            Due.is("count(8) behind " + i, x.count(8), Math.min(i, 12));
            x.add(0, 0);
        }
        for (int i = 11; i >= 0; i--) {
            x.undo();
            Due.is("count(8) then", x.count(8), i);
        }
        x.undo();
        Due.is("count(8) with none left", x.count(8), 0);

        Sentence.of("Promise 4", "9: SHELVES that hold something");
        x = Due.of("base a;want a;");
        Due.is("none", x.count(9), 0);
        x.save(2);
        Due.is("one", x.count(9), 1);
        x.save(2);
        Due.is("the same one", x.count(9), 1);
        x.save(0);
        x.save(1);
        Due.is("all", x.count(9), 3);
        x.save(3);
        x.load(1);
        Due.is("as before", x.count(9), 3);

        Sentence.of("Promise 4", "10: bytes on THE TAPE");
        x = new PowerChains();
        for (int i = 1; i <= 26; i++) {
            x.feed(0, 0, 0, 0, 0);
            Due.is("count(10)", x.count(10), Math.min(20 * i, 500));
        }
        x.text(501);
        Due.is("behind a refused text", x.count(10), 500);
        x.text(1);
        Due.is("behind a text", x.count(10), 0);

        Sentence.of("Promise 4", "11: VISITS of the latest search() that was no NONE (0 ahead of any)");
        x = new PowerChains();
        Due.is("ahead of any", x.count(11), 0);
        x.search(0, 10);
        Due.is("behind a refused one", x.count(11), 0);
        x.search(5, 10);
        Due.is("behind one that found", x.count(11), 4);
        x.search(2048, 10);
        x.search(5, 0);
        Due.is("behind refused ones", x.count(11), 4);
        x.search(5, 2);
        Due.is("behind one given up", x.count(11), 2);
        x.search(1, 2);
        Due.is("behind the least one", x.count(11), 1);

        Sentence.of("Promise 4", "12: LENGTH of what it FOUND (NONE: nothing; ahead of any, too).");
        x = new PowerChains();
        Due.is("ahead of any", x.count(12), -1);
        x.search(5, 10);
        Due.is("behind one that found", x.count(12), 3);
        x.search(5, 100_001);
        Due.is("behind a refused one", x.count(12), 3);
        x.search(5, 3);
        Due.is("behind one given up", x.count(12), -1);
        x.search(1, 1);
        Due.is("of 1", x.count(12), 0);
    }

    private static void nodes() {
        Sentence.of("Promise 5", "Of a NODE, what 0: LEFT, 1: RIGHT (NONE of a BASE)");
        PowerChains x = Due.of("base a b;c=b*a;d=a*c;want d;");
        Due.look(x, 0, -1, -1);
        Due.look(x, 1, -1, -1);
        Due.look(x, 2, 1, 0);
        Due.look(x, 3, 0, 2);

        Sentence.of("Promise 5", "2: 0 to 2 as told, 3 a BASE");
        x = Due.of("base a b c;d=a*a;e=d*b;f=d*a;want f;");
        long[] kinds = {3, 3, 3, 0, 1, 2};
        for (int node = 0; node < kinds.length; node++) {
            Due.is("node(" + node + ", 2)", Due.node(x, node, 2), kinds[node]);
        }

        Sentence.of("Promise 5", "3: DEPTH");
        long[] depths = {0, 0, 0, 1, 2, 2};
        for (int node = 0; node < depths.length; node++) {
            Due.is("node(" + node + ", 3)", Due.node(x, node, 3), depths[node]);
        }

        Sentence.of("Promise 5", "4: 1 NEEDED, 0 not");
        long[] needs = {1, 0, 0, 1, 0, 1};
        for (int node = 0; node < needs.length; node++) {
            Due.is("node(" + node + ", 4)", Due.node(x, node, 4), needs[node]);
        }

        Sentence.of("Promise 5", "5: the first NODE that it is ALIKE to (itself, too)");
        x = Due.of("base a b;c=a*b;d=b*a;e=a*b;f=c*a;want f;");
        long[] first = {0, 1, 2, 2, 2, 5};
        for (int node = 0; node < first.length; node++) {
            Due.is("node(" + node + ", 5)", Due.node(x, node, 5), first[node]);
        }

        Sentence.of("Promise 5", "6: how many STEPS are of it (of one twice: two)");
        x = Due.of("base a b;c=a*a;d=a*c;e=c*a;want e;");
        Due.is("twice, left, right", Due.node(x, 0, 6), 4);
        Due.is("none, a base", Due.node(x, 1, 6), 0);
        Due.is("left, right", Due.node(x, 2, 6), 2);
        Due.is("none, a step", Due.node(x, 4, 6), 0);
        for (int step = 4; step <= 60; step++) {
            x.add(1, 1);
        }
        Due.is("57 twice", Due.node(x, 1, 6), 114);
        Due.is("wants don't count", Due.node(x, 4, 6), 0);
    }

    private static void noSuchNodes() {
        Sentence.of("Promise 5", "NoSuchElementException: others, none such.");
        PowerChains x = Due.of("base a;b=a*a;want b;");
        for (int what = 0; what <= 6; what++) {
            Due.is("node(0, " + what + ") is", Due.node(x, 0, what) == Due.NO_SUCH ? 1 : 0, 0);
            Due.is("node(1, " + what + ") is", Due.node(x, 1, what) == Due.NO_SUCH ? 1 : 0, 0);
            for (int node : new int[] {-1, 2, 63, 64, MAX, MIN}) {
                Due.is("node(" + node + ", " + what + ")", Due.node(x, node, what), Due.NO_SUCH);
            }
            Due.is("new: node(0, " + what + ")", Due.node(new PowerChains(), 0, what), Due.NO_SUCH);
        }
        for (int what : new int[] {-1, 7, 8, MAX, MIN}) {
            Due.is("node(0, " + what + ")", Due.node(x, 0, what), Due.NO_SUCH);
            Due.is("node(1, " + what + ")", Due.node(x, 1, what), Due.NO_SUCH);
            Due.is("node(2, " + what + ")", Due.node(x, 2, what), Due.NO_SUCH);
        }
        // What went is none any more.
        x.want(0, 0);
        x.prune();
        Due.is("node(1, 0) behind prune()", Due.node(x, 1, 0), Due.NO_SUCH);
    }

    private static void exponentAndWanted() {
        Sentence.of("Promise 6", "An EXPONENT of a NODE; NONE: none such.");
        PowerChains x = Due.of("base a b;c=a*b;d=c*b;want d;");
        Due.exponents(x, 3, 1, 2);
        Due.is("0 of a base", x.exponent(0, 1), 0);
        for (int node : new int[] {-1, 4, 63, 64, MAX, MIN}) {
            Due.is("exponent(" + node + ", 0)", x.exponent(node, 0), -1);
        }
        for (int base : new int[] {-1, 2, 3, 4, MAX, MIN}) {
            Due.is("exponent(3, " + base + ")", x.exponent(3, base), -1);
            Due.is("exponent(0, " + base + ")", x.exponent(0, base), -1);
        }
        Due.is("of a new object", new PowerChains().exponent(0, 0), -1);
        Due.is("the greatest", Due.of(FaultTest.GREATEST + "want z;").exponent(59, 0), 1_000_000_000_000_000L);

        Sentence.of("Promise 7", "The NODE of a WANT; NONE: none such.");
        x = Due.of("base a b;c=a*b;want c b;");
        Due.is("wanted(0)", x.wanted(0), 2);
        Due.is("wanted(1)", x.wanted(1), 1);
        for (int k : new int[] {-1, 2, 3, 4, MAX, MIN}) {
            Due.is("wanted(" + k + ")", x.wanted(k), -1);
        }
        x = Due.of("base a b c d;want a b c d;");
        Due.is("the fourth", x.wanted(3), 3);
        Due.is("a fifth", x.wanted(4), -1);
        Due.is("of a new object", new PowerChains().wanted(0), -1);
    }

    private static void run() {
        Sentence.of("Promise 8", "RUN: what a NODE is; NONE: none such, a modulus that can't be.");
        PowerChains x = Due.of("base a b;c=a*b;d=c*c;want d;");
        Due.is("the first node", x.run(0, 100, 3, 5, 0, 0), 3);
        Due.is("the last node", x.run(3, 100, 3, 5, 0, 0), 25);
        for (int node : new int[] {-1, 4, 63, 64, MAX, MIN}) {
            Due.is("run of node " + node, x.run(node, 100, 3, 5, 0, 0), -1);
        }
        for (int m : new int[] {1, 0, -1, -2, 1_000_000_001, MAX, MIN}) {
            Due.is("run of a step, modulus " + m, x.run(3, m, 3, 5, 0, 0), -1);
            Due.is("run of a base, modulus " + m, x.run(0, m, 3, 5, 0, 0), -1);
        }
        Due.is("of a new object", new PowerChains().run(0, 10, 1, 1, 1, 1), -1);

        Sentence.of("Promise 8", "(Numbers of BASES that there aren't are of no matter.)");
        for (int other : new int[] {0, 1, -1, MAX, MIN}) {
            Due.is("run with " + other, x.run(3, 100, 3, 5, other, other), 25);
            Due.is("run of one base", Due.of("base a;b=a*a;want b;").run(1, 100, 7, other, other, other), 49);
        }
        x = Due.of("base a b c d;e=a*b;f=c*d;g=e*f;want g;");
        Due.is("all four matter", x.run(6, 1000, 2, 3, 5, 7), 210);
        Due.is("the third", x.run(2, 1000, 2, 3, 5, 7), 5);
        Due.is("the fourth", x.run(3, 1000, 2, 3, 5, 7), 7);
    }
}
