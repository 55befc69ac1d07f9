/**
 * The boundary cases of programs told anew, of shelves and of what is taken back, sentence by sentence:
 * terms, promises 9 to 12 and 17 to 20.
 */
final class ChangeBoundaries {
    private static final int MAX = Integer.MAX_VALUE;
    private static final int MIN = Integer.MIN_VALUE;
    private static final int[] NO_SHELF = {-1, 3, 4, MAX, MIN};

    private ChangeBoundaries() {
    }

    static void all() {
        pruned();
        folded();
        add();
        addRefused();
        want();
        wantRefused();
        shelves();
        same();
        takenBack();
        notTakenBack();
        undo();
    }

    private static void pruned() {
        Sentence.of("Terms", "PRUNED: STEPS that aren't NEEDED go, those left come up.");
        PowerChains x = Due.of("base a b;c=a*a;d=b*b;e=a*b;f=e*d;g=f*f;want f;");
        Due.is("the first and the last go", x.prune(), 2);
        Due.picture(x, "bases 2, 1*1, 0*1, 3*2 wants 4");
        x = Due.of("base a b c;d=a*b;e=d*d;want b;");
        Due.is("all go, bases stay", x.prune(), 2);
        Due.picture(x, "bases 3 wants 1");
        // Needed, though alike to one ahead.
        x = Due.of("base a;b=a*a;c=a*a;d=b*c;want d c;");
        Due.is("none goes", x.prune(), 0);
        Due.picture(x, "bases 1, 0*0, 0*0, 1*2 wants 3 2");

        Sentence.of("Promise 11", "PRUNED: how many STEPS went (0: it is no thing done).");
        Due.is("of a new object", new PowerChains().prune(), 0);
        x = Due.of("base a;b=a*a;want b;");
        Due.is("none", x.prune(), 0);
        Due.is("no thing done", x.count(8), 1);
        x.add(1, 1);
        Due.is("one", x.prune(), 1);
        Due.is("a thing done", x.count(8), 3);
        Due.is("taken back", x.undo(), 2);
        Due.picture(x, "bases 1, 0*0, 1*1 wants 1");
        for (int step = 3; step <= 60; step++) {
            x.add(step - 1, 0);
        }
        x.want(0, 0);
        Due.is("sixty", x.prune(), 60);
        Due.is("sixty more can come", x.add(0, 0), 1);
    }

    private static void folded() {
        Sentence.of("Terms", "FOLDED: STEP by STEP from the first one on: one that is ALIKE to a NODE ahead goes");
        PowerChains x = Due.of("base a b;c=a*b;d=b*a;e=a*a;f=a*b;want e;");
        Due.is("two", x.fold(), 2);
        Due.picture(x, "bases 2, 0*1, 0*0 wants 3");
        // Alike by other steps: 4 as 2 and 2, as 3 and 1.
        x = Due.of("base a;b=a*a;c=b*a;d=c*a;e=b*b;want d;");
        Due.is("one", x.fold(), 1);
        Due.picture(x, "bases 1, 0*0, 1*0, 2*0 wants 3");
        x = Due.of("base a;b=a*a;c=b*a;want b;");
        Due.is("none, needed or not", x.fold(), 0);

        Sentence.of("Terms", "what was of it is of the first such one (WANTS, too)");
        x = Due.of("base a b;c=a*b;d=b*a;e=a*b;f=d*e;g=e*d;h=g*d;want e g h d;");
        Due.is("three", x.fold(), 3);
        Due.picture(x, "bases 2, 0*1, 2*2, 3*2 wants 2 3 4 2");
        // A step of two that go is then a doubling.
        Due.is("node(3, 2)", Due.node(x, 3, 2), 0);

        Sentence.of("Promise 12", "FOLDED, likewise.");
        Due.is("of a new object", new PowerChains().fold(), 0);
        x = Due.of("base a;b=a*a;want b;");
        Due.is("none", x.fold(), 0);
        Due.is("no thing done", x.count(8), 1);
        x.add(0, 0);
        Due.is("one", x.fold(), 1);
        Due.is("a thing done", x.count(8), 3);
        Due.is("taken back", x.undo(), 2);
        Due.picture(x, "bases 1, 0*0, 0*0 wants 1");
        for (int step = 3; step <= 60; step++) {
            x.add(0, 0);
        }
        Due.is("all but the first", x.fold(), 59);
        Due.picture(x, "bases 1, 0*0 wants 1");
    }

    private static void add() {
        Sentence.of("Promise 9", "A STEP comes behind: its NODE");
        PowerChains x = Due.of("base a b c d;want a;");
        Due.is("the first", x.add(3, 0), 4);
        Due.is("the second", x.add(4, 4), 5);
        Due.is("the last two nodes", x.add(4, 5), 6);
        Due.picture(x, "bases 4, 3*0, 4*4, 4*5 wants 0");
        for (int step = 4; step <= 60; step++) {
            Due.is("step " + step, x.add(0, 1), step + 3);
        }
    }

    private static void addRefused() {
        Sentence.of("Promise 9", "NONE: none such, there are 60");
        PowerChains x = Due.of("base a b;c=a*b;want c;");
        for (int bad : new int[] {-1, 3, 63, 64, MAX, MIN}) {
            Due.is("add(" + bad + ", 0)", x.add(bad, 0), -1);
            Due.is("add(0, " + bad + ")", x.add(0, bad), -1);
            Due.is("add(" + bad + ", " + bad + ")", x.add(bad, bad), -1);
        }
        Due.is("no thing done", x.count(8), 1);
        Due.picture(x, "bases 2, 0*1 wants 2");
        for (int step = 2; step <= 60; step++) {
            x.add(0, 0);
        }
        Due.is("there are 60", x.add(0, 0), -1);
        Due.is("still", x.count(1), 60);
        Due.is("add to a new object", new PowerChains().add(0, 0), -1);

        Sentence.of("Promise 9", "-2: an EXPONENT would be above 10 to the 15.");
        x = Due.of(FaultTest.GREATEST + "want z;");
        Due.is("10 to the 15 and 1", x.add(59, 0), -2);
        Due.is("1 and 10 to the 15", x.add(0, 59), -2);
        Due.is("twice", x.add(59, 59), -2);
        Due.is("no thing done", x.count(8), 1);
        Due.is("just 10 to the 15", x.add(58, 58), 60);
        Due.is("1 of the other base", x.add(60, 1), 61);
        Due.is("there are 60: that goes ahead", x.add(59, 59), -1);
        // Each base's is looked at: the fourth of four.
        x = Due.of("base a b c d;t=d^8192;u=t^8192;v=u^4096;w=v^2048;want w;");
        Due.is("2 to the 50", x.add(52, 52), -2);
        Due.is("2 to the 49 and 1", x.add(52, 3), 53);
    }

    private static void want() {
        Sentence.of("Promise 10", "A WANT is a NODE (k: that it is, or how many there are: one more, 4 at most): how many there are");
        PowerChains x = Due.of("base a b;c=a*b;want c;");
        Due.is("that it is", x.want(0, 1), 1);
        Due.wants(x, 1);
        Due.is("one more", x.want(1, 0), 2);
        Due.wants(x, 1, 0);
        Due.is("one more", x.want(2, 2), 3);
        Due.is("the fourth", x.want(3, 2), 4);
        Due.wants(x, 1, 0, 2, 2);
        Due.is("the first of four", x.want(0, 2), 4);
        Due.is("the last of four", x.want(3, 0), 4);
        Due.wants(x, 2, 0, 2, 0);
        Due.is("a fifth", x.want(4, 0), -1);
        Due.is("things done", x.count(8), 7);
    }

    private static void wantRefused() {
        Sentence.of("Promise 10", "NONE: others, none such.");
        PowerChains x = Due.of("base a b;c=a*b;want c;");
        for (int k : new int[] {-1, 2, 3, 4, 5, MAX, MIN}) {
            Due.is("want(" + k + ", 0)", x.want(k, 0), -1);
        }
        for (int node : new int[] {-1, 3, 63, 64, MAX, MIN}) {
            Due.is("want(0, " + node + ")", x.want(0, node), -1);
            Due.is("want(1, " + node + ")", x.want(1, node), -1);
        }
        Due.wants(x, 2);
        Due.is("no thing done", x.count(8), 1);
        Due.is("want of a new object", new PowerChains().want(0, 0), -1);
    }

    private static void shelves() {
        Sentence.of("Terms", "SHELVES 0 to 2 hold PROGRAMS.");
        PowerChains x = Due.of("base a;want a;");
        Due.is("save(-1)", x.save(-1), -1);
        for (int shelf = 0; shelf <= 2; shelf++) {
            x.add(0, 0);
            Due.is("save(" + shelf + ")", x.save(shelf), shelf + 1);
        }
        Due.is("save(3)", x.save(3), -1);
        for (int shelf = 0; shelf <= 2; shelf++) {
            Due.is("load(" + shelf + ")", x.load(shelf), shelf + 1);
        }

        Sentence.of("Promise 17", "The PROGRAM is put on a SHELF: how many STEPS; NONE: none such.");
        x = Due.of("base a b;c=a*b;d=c*c;want d b;");
        for (int bad : NO_SHELF) {
            Due.is("save(" + bad + ")", x.save(bad), -1);
        }
        Due.is("shelves", x.count(9), 0);
        Due.is("two steps", x.save(0), 2);
        Due.is("no thing done", x.count(8), 1);
        Due.text(x, "base a;want a;");
        Due.is("another in its place", x.save(0), 0);
        Due.text(x, "base a b;c=a*b;want c;");
        Due.is("the latter is there", x.load(0), 0);
        Due.picture(x, "bases 1 wants 0");
        x.add(0, 0);
        Due.is("what comes later doesn't come there", x.load(0), 0);
        x = new PowerChains();
        Due.is("a program of nothing", x.save(1), 0);
        Due.is("shelves", x.count(9), 1);

        Sentence.of("Promise 18", "The PROGRAM is that of a SHELF: likewise; NONE: none such, nothing is there.");
        x = Due.of("base a b;c=a*b;d=c*c;want d b;");
        for (int bad : NO_SHELF) {
            Due.is("load(" + bad + ")", x.load(bad), -1);
        }
        x.save(1);
        Due.is("nothing on 0", x.load(0), -1);
        Due.is("nothing on 2", x.load(2), -1);
        Due.is("no thing done", x.count(8), 1);
        Due.text(x, "base a;want a;");
        Due.is("load(1)", x.load(1), 2);
        Due.picture(x, "bases 2, 0*1, 2*2 wants 3 1");
        Due.is("a thing done", x.count(8), 3);
        Due.is("once more", x.load(1), 2);
        Due.is("a thing done", x.count(8), 4);
    }

    private static void same() {
        Sentence.of("Promise 19", "Whether the PROGRAM comes to the same as that of a SHELF: 1: as many BASES, WANTS, and the same EXPONENTS of each WANT, 0: not");
        PowerChains x = Due.of("base a b;c=a*b;d=c*b;want d a;");
        x.save(0);
        Due.is("itself", x.same(0), 1);
        Due.text(x, "base a b;c=b^2;d=a*c;e=d*d;want d a;");
        Due.is("by other steps and more", x.same(0), 1);
        Due.text(x, "base a b c;d=a*b;e=d*b;want e a;");
        Due.is("a base more", x.same(0), 0);
        Due.text(x, "base a b;c=a*b;d=c*b;want d;");
        Due.is("a want fewer", x.same(0), 0);
        Due.text(x, "base a b;c=a*b;d=c*b;want d a a;");
        Due.is("a want more", x.same(0), 0);
        Due.text(x, "base a b;c=a*b;d=c*b;want a d;");
        Due.is("wants in another order", x.same(0), 0);
        Due.text(x, "base a b;c=a*b;d=c*b;want d b;");
        Due.is("the last want is another", x.same(0), 0);
        Due.text(x, "base a b;c=a*b;d=c*a;want d a;");
        Due.is("bases the other way round", x.same(0), 0);
        Due.text(x, "base a b;c=a*b;want c a;");
        Due.is("the last base's exponent is another", x.same(0), 0);
        Due.text(x, "base a b;c=a*b;d=c*c;want d a;");
        Due.is("the first base's exponent is another", x.same(0), 0);
        Due.text(x, "base a;want a;");
        Due.is("a base fewer", x.same(0), 0);
        x = new PowerChains();
        x.save(0);
        Due.is("nothing and nothing", x.same(0), 1);
        Due.text(x, "base a;want a;");
        Due.is("nothing and something", x.same(0), 0);

        Sentence.of("Promise 19", "NONE as load().");
        x = Due.of("base a;want a;");
        x.save(1);
        for (int bad : NO_SHELF) {
            Due.is("same(" + bad + ")", x.same(bad), -1);
        }
        Due.is("nothing on 0", x.same(0), -1);
        Due.is("nothing on 2", x.same(2), -1);
        Due.is("same(1)", x.same(1), 1);
        Due.is("same of a new object", new PowerChains().same(0), -1);
    }

    private static void takenBack() {
        Sentence.of("Terms", "What was done (text(), add(), want(), prune(), fold(), dual(), sequence(), vector(), load()) can be taken back");
        String[] calls = {"text", "add", "want", "prune", "fold", "dual", "sequence", "vector", "load"};
        for (String call : calls) {
            PowerChains x = Due.of("base a b;c=a*b;d=b*a;want a c;");
            x.save(0);
            x.want(0, 1);
            String before = Due.picture(x);
            Due.is("things done ahead of " + call, x.count(8), 2);
            Due.is(call + " is done", done(x, call) >= 0 ? 1 : 0, 1);
            Due.is("things done behind " + call, x.count(8), 3);
            Due.is(call + " changes the program", Due.picture(x).equals(before) ? 1 : 0, 0);
            Due.is("undo() of " + call, x.undo(), 2);
            Due.picture(x, before);
            Due.is("undo() of the want ahead of " + call, x.undo(), 1);
            Due.picture(x, "bases 2, 0*1, 1*0 wants 0 2");
        }
    }

    private static int done(PowerChains x, String call) {
        switch (call) {
            case "text":
                return Due.text(x, "base a;want a;");
            case "add":
                return x.add(0, 0);
            case "want":
                return x.want(2, 0);
            case "prune":
                return x.prune() - 1;
            case "fold":
                return x.fold() - 1;
            case "dual":
                return x.dual();
            case "sequence":
                return x.sequence(1, 7, 0, 0, 0);
            case "vector":
                return x.vector(2, 7, 5, 0, 0);
            default:
                return x.load(0);
        }
    }

    private static void notTakenBack() {
        Sentence.of("Terms", "12 at most");
        PowerChains x = Due.of("base a;want a;");
        for (int step = 1; step <= 11; step++) {
            x.add(0, 0);
        }
        Due.is("twelve", x.count(8), 12);
        x.add(0, 0);
        Due.is("thirteen were done", x.count(8), 12);
        for (int left = 11; left >= 0; left--) {
            Due.is("undo()", x.undo(), left);
        }
        Due.is("a thirteenth", x.undo(), -1);
        Due.picture(x, "bases 1 wants 0");
        // What is done, looked at or refused else is nothing to take back.
        x = Due.of("base a b;c=a*b;want c;");
        x.feed(0, 0, 0, 0, 0);
        x.text(-1);
        x.text(3);
        x.dualLong();
        x.save(0);
        x.same(0);
        x.prune();
        x.fold();
        x.add(9, 9);
        x.want(9, 9);
        x.sequence(0, 1, 1, 1, 1);
        x.vector(1, 0, 1, 1, 1);
        x.load(1);
        x.search(5, 10);
        x.isChain(2, 2, 0, 0, 0, 0);
        Due.is("the text alone", x.count(8), 1);
    }

    private static void undo() {
        Sentence.of("Promise 20", "The latest is taken back: how many still can be; NONE: none.");
        PowerChains x = new PowerChains();
        Due.is("of a new object", x.undo(), -1);
        Due.text(x, "base a;want a;");
        x.add(0, 0);
        Due.is("the add", x.undo(), 1);
        Due.picture(x, "bases 1 wants 0");
        Due.is("the text", x.undo(), 0);
        Due.picture(x, "bases 0");
        Due.is("none", x.undo(), -1);
        Due.is("none again", x.undo(), -1);
        Due.picture(x, "bases 0");
        Due.text(x, "base a b;want b;");
        Due.is("done anew", x.count(8), 1);
        Due.is("and taken back", x.undo(), 0);
        // Round and round: the twelve places go round, and hold what they should.
        Due.text(x, "base a;want a;");
        for (int turn = 0; turn < 5; turn++) {
            for (int i = 0; i < 7; i++) {
                x.add(x.count(1), 0);
            }
            for (int i = 0; i < 3; i++) {
                int steps = x.count(1);
                x.undo();
                Due.is("steps then", x.count(1), steps - 1);
            }
        }
        Due.exponents(x, 20, 21);
    }
}
