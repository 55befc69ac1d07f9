/** The boundary cases of programs, texts and their faults, sentence by sentence: terms, promises 1 to 3. */
final class TextBoundaries {
    private static final int MAX = Integer.MAX_VALUE;
    private static final int MIN = Integer.MIN_VALUE;
    private static final long GREATEST = 1_000_000_000_000_000L;
    /** 60 steps: 9999 has 20 by BINARY. */
    private static final String SIXTY = "base a b c;t=a^9999;u=b^9999;v=c^9999;";
    /** 59 steps: 9998 has 19. */
    private static final String FIFTY_NINE = "base a b c;t=a^9999;u=b^9999;v=c^9998;";

    private TextBoundaries() {
    }

    static void all() {
        programs();
        exponents();
        tokens();
        statements();
        names();
        numbers();
        whichFault();
        faultOne();
        faultsTwoToFour();
        faultsFiveAndSix();
        newObject();
        feed();
        text();
    }

    private static void programs() {
        Sentence.of("Terms", "A PROGRAM has BASES (0 to 4)");
        Due.is("none", new PowerChains().count(0), 0);
        Due.is("one", Due.of("base a;want a;").count(0), 1);
        Due.is("four", Due.of("base a b c d;want a;").count(0), 4);
        Due.fault("base a b c d e;want a;", 13, 5);

        Sentence.of("Terms", "then STEPS (60 at most)");
        Due.is("none", Due.of("base a;want a;").count(1), 0);
        PowerChains x = Due.of(FIFTY_NINE + "want v;");
        Due.is("the 60th by add", x.add(0, 1), 62);
        Due.is("a 61st by add", x.add(0, 1), -1);
        Due.is("there are still", x.count(1), 60);
        Due.is("60 by a text", Due.of(SIXTY + "want v;").count(1), 60);
        Due.fault(SIXTY + "w=a*b;want v;", SIXTY.length() + 5, 5);

        Sentence.of("Terms", "numbered together as NODES from 0 on");
        x = Due.of("base a b;c=a*b;d=c*c;want d;");
        Due.is("one ahead of 0", Due.node(x, -1, 2), Due.NO_SUCH);
        Due.is("0 is the first base", Due.node(x, 0, 2), 3);
        Due.is("1 is the last base", Due.node(x, 1, 2), 3);
        Due.is("2 is the first step", Due.node(x, 2, 2), 1);
        Due.is("3 is the last step", Due.node(x, 3, 2), 0);
        Due.is("4 is none", Due.node(x, 4, 2), Due.NO_SUCH);

        Sentence.of("Terms", "and WANTS (0 to 4), each a NODE");
        Due.wants(new PowerChains());
        Due.wants(Due.of("base a;b=a*a;want a b;"), 0, 1);
        x = Due.of("base a;b=a*a;want b b a b;");
        Due.wants(x, 1, 1, 0, 1);
        Due.is("a fifth", x.want(4, 0), -1);
        Due.is("behind the last node", x.want(0, 2), -1);
        Due.is("ahead of the first node", x.want(0, -1), -1);
        Due.wants(x, 1, 1, 0, 1);

        Sentence.of("Terms", "A STEP is of two NODES ahead of it, LEFT and RIGHT (they may be one)");
        x = Due.of("base a;want a;");
        Due.is("of itself, left", x.add(1, 0), -1);
        Due.is("of itself, right", x.add(0, 1), -1);
        Due.is("of one twice", x.add(0, 0), 1);
        Due.is("of the one right ahead", x.add(1, 0), 2);
        Due.picture(x, "bases 1, 0*0, 1*0 wants 0");
        Due.fault("base a;t=t*a;want t;", 9, 3);
    }

    private static void exponents() {
        Sentence.of("Terms", "EXPONENTS of a NODE: one number for each BASE: of a BASE 1 for itself, 0 for others");
        PowerChains x = Due.of("base a b c d;want a;");
        Due.exponents(x, 0, 1, 0, 0, 0);
        Due.exponents(x, 1, 0, 1, 0, 0);
        Due.exponents(x, 2, 0, 0, 1, 0);
        Due.exponents(x, 3, 0, 0, 0, 1);
        Due.exponents(Due.of("base a;want a;"), 0, 1);

        Sentence.of("Terms", "of a STEP those of LEFT and RIGHT, added");
        x = Due.of("base a b c d;e=a*d;f=e*c;g=f*e;h=g*g;want h;");
        Due.exponents(x, 4, 1, 0, 0, 1);
        Due.exponents(x, 5, 1, 0, 1, 1);
        Due.exponents(x, 6, 2, 0, 1, 2);
        Due.exponents(x, 7, 4, 0, 2, 4);

        Sentence.of("Terms", "None may be above 10 to the 15");
        x = Due.of(FaultTest.GREATEST + "want z;");
        Due.exponents(x, 59, GREATEST, 0);
        Due.is("10 to the 15 by add", x.add(58, 58), 60);
        Due.exponents(x, 60, GREATEST, 0);
        Due.is("1 above by add", x.add(60, 0), -2);
        Due.is("1 of another base", x.add(60, 1), 61);
        Due.fault(FaultTest.GREATEST + "aa=z*a;want z;", FaultTest.GREATEST.length() + 6, 6);
    }

    private static void tokens() {
        Sentence.of("Terms", "A TEXT (THE TAPE has 500 bytes");
        PowerChains x = new PowerChains();
        String filled = "base a;want a" + " ".repeat(486) + ";";
        Due.is("a text of 500 bytes", Due.text(x, filled), 0);
        Due.wants(x, 0);
        Due.fault("base a;want a" + " ".repeat(487), 500, 1);

        Sentence.of("Terms", "blanks, 32, 10, part TOKENS and mean nothing else");
        Due.wants(Due.of("base a b;want a b;"), 0, 1);
        Due.wants(Due.of("base\na\nb;want\na\nb;"), 0, 1);
        Due.wants(Due.of(" \n base \n a \n ; t = a \n ^ 2 ; want \n t ; \n "), 1);
        Due.wants(Due.of("base a;t=a^2;want t;"), 1);
        Due.fault("ba se a;want a;", 0, 1);
        Due.fault("base a;wa nt a;", 10, 1);
        Due.fault("base a;t=a^2 2;want t;", 13, 1);
        for (int no : new int[] {0, 9, 11, 12, 13, 31, 33, 160}) {
            Due.fault("base a" + (char) no + ";want a;", 6, 1);
        }

        Sentence.of("Terms", "TOKENS: WORDS of small letters, NUMBERS of digits, each that stand together");
        for (int b = 0; b < 256; b++) {
            boolean blank = b == 32 || b == 10;
            String text = "base a" + (char) b + " ;want a;";
            // A letter makes another NAME of it, so that a is none; behind a ; no text goes on with ;.
            long due = blank ? 0 : b >= 'a' && b <= 'z' ? -2 - (8 * 14 + 3) : b == ';' ? -2 - (8 * 8 + 1) : -2 - (8 * 6 + 1);
            Due.is("byte " + b + " behind a word", Due.text(new PowerChains(), text), due);
            text = "base a;t=a^2" + (char) b + " ;want t;";
            boolean digit = b >= '0' && b <= '9';
            // 20 to 29 have four doublings, and one more for each bit behind the first.
            due = digit ? 4 + Integer.bitCount(20 + b - '0') - 1 : blank ? 1 : -2 - (8 * (b == ';' ? 14 : 12) + 1);
            Due.is("byte " + b + " behind a number", Due.text(new PowerChains(), text), due);
            text = "base a;t=a^" + (char) b + ";want t;";
            // 2 to 9 have a doubling for each bit behind the first, and one more for each that is 1; 0 and 1 can't be.
            int digitWorth = b - '0';
            due = !digit ? -2 - (8 * (blank ? 12 : 11) + 1) : digitWorth < 2 ? -2 - (8 * 11 + 4)
                    : 30 - Integer.numberOfLeadingZeros(digitWorth) + Integer.bitCount(digitWorth);
            Due.is("byte " + b + " for a number", Due.text(new PowerChains(), text), due);
        }

        Sentence.of("Terms", "the signs ; = * ^)");
        for (int b = 33; b < 256; b++) {
            boolean letter = b >= 'a' && b <= 'z';
            String text = "base a;t " + (char) b + " a*a;want t;";
            Due.is("byte " + b + " for =", Due.text(new PowerChains(), text), b == '=' ? 1 : -2 - (8 * 9 + 1));
            text = "base a;t=a " + (char) b + " a;want t;";
            long due = b == '*' ? 1 : b == '^' ? -2 - (8 * 13 + 1) : -2 - (8 * 11 + 1);
            Due.is("byte " + b + " for *", Due.text(new PowerChains(), text), due);
            text = "base a;t=a " + (char) b + " 2;want t;";
            due = b == '^' ? 1 : b == '*' ? -2 - (8 * 13 + 1) : -2 - (8 * 11 + 1);
            Due.is("byte " + b + " for ^", Due.text(new PowerChains(), text), due);
            text = "base c " + (char) b + " want c;";
            // A letter but c is a NAME more, c one given to two; then want isn't one.
            due = b == ';' ? 0 : letter ? b == 'c' ? -2 - (8 * 7 + 2) : -2 - (8 * 9 + 1) : -2 - (8 * 7 + 1);
            Due.is("byte " + b + " for ;", Due.text(new PowerChains(), text), due);
        }
    }

    private static void statements() {
        Sentence.of("Terms", "base NAME { NAME } ; (4 at most)");
        Due.fault("base;want a;", 4, 1);
        Due.is("one", Due.of("base a;want a;").count(0), 1);
        Due.is("two", Due.of("base a b;want a;").count(0), 2);
        Due.is("four", Due.of("base a b c d;want d;").count(0), 4);
        Due.fault("base a b c d e", 13, 5);
        Due.fault("base a b c d", 12, 1);
        Due.fault("a;want a;", 0, 1);
        Due.fault("want a;", 0, 1);

        Sentence.of("Terms", "{ NAME = NAME * NAME ; | NAME = NAME ^ NUMBER ; }");
        Due.picture(Due.of("base a;want a;"), "bases 1 wants 0");
        Due.picture(Due.of("base a;b=a*a;want a;"), "bases 1, 0*0 wants 0");
        Due.picture(Due.of("base a;b=a^2;want a;"), "bases 1, 0*0 wants 0");
        Due.picture(Due.of("base a;b=a*a;c=b^2;d=c*a;want d;"), "bases 1, 0*0, 1*1, 2*0 wants 3");
        Due.fault("base a;b;want a;", 8, 1);
        Due.fault("base a;b=;want a;", 9, 1);
        Due.fault("base a;b=a;want a;", 10, 1);
        Due.fault("base a;b=a*;want a;", 11, 1);
        Due.fault("base a;b=a^;want a;", 11, 1);
        Due.fault("base a;b=a*a want a;", 13, 1);
        Due.fault("base a;b=a^2 want a;", 13, 1);
        Due.fault("base a;b=a*2;want a;", 11, 1);
        Due.fault("base a;b=a^a;want a;", 11, 1);
        Due.fault("base a;;want a;", 7, 1);

        Sentence.of("Terms", "want NAME { NAME } ; (4 at most; one may stand more than once)");
        Due.fault("base a;want;", 11, 1);
        Due.wants(Due.of("base a;want a;"), 0);
        Due.wants(Due.of("base a b c d;want d c b a;"), 3, 2, 1, 0);
        Due.wants(Due.of("base a b;want b b b b;"), 1, 1, 1, 1);
        Due.wants(Due.of("base a b;want b a b;"), 1, 0, 1);
        Due.fault("base a;want a a a a a;", 20, 5);
        Due.fault("base a;want a a a a", 19, 1);
        Due.fault("base a;t=a*a;", 13, 1);

        Sentence.of("Terms", "and no more");
        Due.is("blanks", Due.text(new PowerChains(), "base a;want a; \n "), 0);
        Due.fault("base a;want a; ;", 15, 1);
        Due.fault("base a;want a;want a;", 14, 1);
        Due.fault("base a;want a;t=a*a;", 14, 1);
        Due.fault("base a;want a;base b;", 14, 1);
        Due.fault("base a;want a;7", 14, 1);
        Due.fault("base a;want a;\0", 14, 1);
    }

    private static void names() {
        Sentence.of("Terms", "NAMES are WORDS of 1 to 4 letters but base, want");
        Due.wants(Due.of("base z aa zzz abcd;want abcd zzz aa z;"), 3, 2, 1, 0);
        Due.wants(Due.of("base bas ba b;bass=bas*b;want bass ba;"), 3, 1);
        Due.wants(Due.of("base wan wa w;wann=w*wa;want wann wan;"), 3, 0);
        for (String no : new String[] {"abcde", "based", "wants", "base", "want", "abase", "zzzzzzzzzzzzzzzzzzzz", "2"}) {
            Due.fault("base " + no + ";", 5, 1);
            Due.fault("base a " + no + ";", 7, 1);
            if (!no.equals("want")) {
                Due.fault("base a;" + no + "=a*a;", 7, 1);
            } else {
                Due.fault("base a;want=a*a;", 11, 1);
            }
            Due.fault("base a;t=" + no + "*a;", 9, 1);
            Due.fault("base a;t=a*" + no + ";", 11, 1);
            Due.fault("base a;t=" + no + "^2;", 9, 1);
            Due.fault("base a;want " + no + ";", 12, 1);
            Due.fault("base a;want a " + no + ";", 14, 1);
        }
        // Names of four letters are told apart by each of them.
        for (String other : new String[] {"bbcd", "accd", "abdd", "abce", "abc", "bcd"}) {
            Due.fault("base abcd;want " + other + ";", 15, 3);
        }

        Sentence.of("Terms", "The NAME ahead of = is that of the STEP then");
        Due.wants(Due.of("base a;t=a*a;u=t*t;want u t;"), 2, 1);
        Due.fault("base a;t=t*a;want t;", 9, 3);
        Due.fault("base a;t=a*t;want t;", 11, 3);
        Due.fault("base a;t=t^2;want t;", 9, 3);
        Due.fault("base a;u=t*t;t=a*a;want u;", 9, 3);
    }

    private static void numbers() {
        Sentence.of("Terms", "NUMBER: 2 to 9999");
        Due.fault("base a;t=a^0;want t;", 11, 4);
        Due.fault("base a;t=a^1;want t;", 11, 4);
        Due.is("2", Due.of("base a;t=a^2;want t;").count(1), 1);
        PowerChains x = Due.of("base a;t=a^9999;want t;");
        Due.is("9999", x.exponent(x.wanted(0), 0), 9999);
        Due.fault("base a;t=a^10000;want t;", 11, 4);

        Sentence.of("Terms", "STEPS as by the BINARY chain of it (3.), the NAME behind = being its 1");
        Due.picture(Due.of("base a b;t=b^2;want t;"), "bases 2, 1*1 wants 2");
        // 11 is 1011: 2, 4, 5, 10, 11.
        Due.picture(Due.of("base a b;t=b^11;want t;"), "bases 2, 1*1, 2*2, 3*1, 4*4, 5*1 wants 6");
        Due.picture(Due.of("base a b;t=b^16;want t;"), "bases 2, 1*1, 2*2, 3*3, 4*4 wants 5");

        Sentence.of("Terms", "(twice: of what is there and itself; one more: LEFT what is there, RIGHT that NAME)");
        Due.picture(Due.of("base a;t=a^3;want t;"), "bases 1, 0*0, 1*0 wants 2");
        Due.picture(Due.of("base a b;c=a*b;t=c^3;want t;"), "bases 2, 0*1, 2*2, 3*2 wants 4");
        Due.picture(Due.of("base a;t=a^7;want t;"), "bases 1, 0*0, 1*0, 2*2, 3*0 wants 4");

        Sentence.of("Terms", "the last one has the NAME");
        Due.picture(Due.of("base a;t=a^6;u=t*a;want t u;"), "bases 1, 0*0, 1*0, 2*2, 3*0 wants 3 4");
        Due.picture(Due.of("base a;t=a^2;u=t^2;want t u;"), "bases 1, 0*0, 1*1 wants 1 2");
    }

    private static void whichFault() {
        Sentence.of("Terms", "FAULTS, the one whose place is least");
        // Of each kind one, and one of a lesser kind behind it.
        Due.fault("base a ;;", 8, 1);
        Due.fault("base a a ?", 7, 2);
        Due.fault("base a;t=b*?", 9, 3);
        Due.fault("base a;t=a^1?", 11, 4);
        Due.fault("base a b c d e?", 13, 5);
        Due.fault("base a;want a a a a a?", 20, 5);
        Due.fault(SIXTY + "w=a*b;?", SIXTY.length() + 5, 5);
        Due.fault(FaultTest.GREATEST + "aa=z*a;?", FaultTest.GREATEST.length() + 6, 6);
        Due.fault("base a;a=b*c", 7, 2);
        Due.fault("base a;t=a^1 want", 11, 4);
        // A text that would be too long or too great by a statement that doesn't end.
        Due.fault(SIXTY + "w=a*b want v;", SIXTY.length() + 6, 1);
        Due.fault(FaultTest.GREATEST + "aa=z*a", FaultTest.GREATEST.length() + 6, 1);

        Sentence.of("Terms", "of one place the one that stands first here");
        Due.fault("base a b c d a;", 13, 2);
        Due.fault("base a b c d base;", 13, 1);
        Due.fault("base a b c d 7;", 13, 1);
        Due.fault("base a;want a a a a b;", 20, 3);
        Due.fault("base a;want a a a a want;", 20, 1);
        Due.fault("base a;t=a*10000;", 11, 1);
        Due.fault("base a;10000=a*a;", 7, 1);
        // At one ; more than 60 steps, and an exponent above 10 to the 15.
        Due.fault(FaultTest.GREATEST + "aa=z^5;want z;", FaultTest.GREATEST.length() + 6, 5);
        Due.fault(FaultTest.GREATEST + "aa=z^3;want z;", FaultTest.GREATEST.length() + 6, 6);
    }

    private static void faultOne() {
        Sentence.of("Terms", "1 the first byte that begins no TOKEN");
        for (char no : new char[] {0, 1, '\t', '\r', '!', '/', ':', '<', 'A', 'Z', '`', '{', 127, 128, 255}) {
            Due.fault(no + "base a;want a;", 0, 1);
            Due.fault("base a;t=a*a" + no + no + ";want t;", 12, 1);
            Due.fault("base a;want a;" + no, 14, 1);
        }

        Sentence.of("Terms", "the TOKEN with which no TEXT goes on");
        Due.fault("bas a;want a;", 0, 1);
        Due.fault("base a=b", 6, 1);
        Due.fault("base a;t*a;want a;", 8, 1);
        Due.fault("base a;t=a=a;want a;", 10, 1);
        Due.fault("base a;t=a*a*a;want t;", 12, 1);
        Due.fault("base a;t=a^2^2;want t;", 12, 1);
        Due.fault("base a;want a=a;", 13, 1);
        Due.fault("base a;t = a  b;want a;", 14, 1);

        Sentence.of("Terms", "(the end: how many bytes there are");
        // Wherever it ends; a cut within base leaves a word that isn't base.
        String whole = "base a b;t=a*b;u=t^23;want t u;";
        for (int n = 0; n < whole.length(); n++) {
            Due.fault(whole.substring(0, n), n < 4 ? 0 : n, 1);
        }
        Due.fault("    ", 4, 1);
        Due.fault("base a;want a \n\n", 16, 1);

        Sentence.of("Terms", "a WORD that isn't a NAME where one must stand)");
        Due.fault("base abcde;want a;", 5, 1);
        Due.fault("base a;abcde=a*a;want a;", 7, 1);
        Due.fault("base a;base=a*a;want a;", 7, 1);
        Due.fault("base a;t=abcde*a;want a;", 9, 1);
        Due.fault("base a;t=a*base;want a;", 11, 1);
        Due.fault("base a;want abcde;", 12, 1);
        Due.fault("base a;want want;", 12, 1);
    }

    private static void faultsTwoToFour() {
        Sentence.of("Terms", "2 a NAME that is given to two");
        Due.fault("base a a;want a;", 7, 2);
        Due.fault("base a b c a;want a;", 11, 2);
        Due.fault("base a;a=a*a;want a;", 7, 2);
        Due.fault("base a;t=a*a;t=a*a;want t;", 13, 2);
        Due.fault("base a;t=a^5;t=a^5;want t;", 13, 2);
        Due.is("base names need no step's", Due.of("base a b;c=a*b;want c;").count(1), 1);

        Sentence.of("Terms", "3 a NAME that none has");
        Due.fault("base a;t=b*a;want t;", 9, 3);
        Due.fault("base a;t=a*b;want t;", 11, 3);
        Due.fault("base a;t=b^2;want t;", 9, 3);
        Due.fault("base a;want b;", 12, 3);
        Due.fault("base a;want a b;", 14, 3);
        Due.fault("base a;want a a a b;", 18, 3);
        // What an earlier text gave names to is of no matter, nor what stands within a power.
        PowerChains x = Due.of("base a b;c=a*b;d=c*c;e=d*d;want e;");
        Due.is("a step's name of an earlier text", Due.text(x, "base a b;t=a^4;want d;"), -2 - (8 * 20 + 3));
        Due.is("a step's name within a power", Due.text(x, "base a b;t=a^8;u=c*a;want t;"), -2 - (8 * 17 + 3));
        Due.is("a base's name of an earlier text", Due.text(x, "base a;want b;"), -2 - (8 * 12 + 3));
        Due.is("a name of an earlier text given anew", Due.text(x, "base c;a=c*c;b=a*a;want b;"), 2);

        Sentence.of("Terms", "4 a NUMBER that can't be, at its first digit (also one of more than 4 digits)");
        Due.fault("base a;t=a^0;want t;", 11, 4);
        Due.fault("base a;t=a^ 1;want t;", 12, 4);
        Due.fault("base a;t=a^0000;want t;", 11, 4);
        Due.fault("base a;t=a^0001;want t;", 11, 4);
        Due.is("0002", Due.of("base a;t=a^0002;want t;").count(1), 1);
        Due.fault("base a;t=a^00002;want t;", 11, 4);
        Due.fault("base a;t=a^10000;want t;", 11, 4);
        Due.fault("base a;t=a^99999;want t;", 11, 4);
        // 2 and 2 to the 32, or to the 64.
        Due.fault("base a;t=a^4294967298;want t;", 11, 4);
        Due.fault("base a;t=a^18446744073709551618;want t;", 11, 4);
    }

    private static void faultsFiveAndSix() {
        Sentence.of("Terms", "5 a fifth NAME of base, of want");
        Due.is("a fourth of base", Due.text(new PowerChains(), "base a b c d;want a;"), 0);
        Due.fault("base a b c d e;want a;", 13, 5);
        Due.fault("base aa bb cc dd  ee ff;want a;", 18, 5);
        Due.is("a fourth of want", Due.text(new PowerChains(), "base a;want a a a a;"), 0);
        Due.fault("base a;want a a a a a;", 20, 5);
        Due.fault("base a b;want a b a b a b;", 22, 5);

        Sentence.of("Terms", "at the ; of a statement by which there would be more than 60 STEPS");
        Due.is("60 by *", Due.text(new PowerChains(), FIFTY_NINE + "w=a*b;want w;"), 60);
        Due.is("60 by ^", Due.text(new PowerChains(), FIFTY_NINE + "w=a^2;want w;"), 60);
        Due.fault(FIFTY_NINE + "w=a*b;x=a*a ;want w;", FIFTY_NINE.length() + 12, 5);
        Due.fault(FIFTY_NINE + "w=a^3;want w;", FIFTY_NINE.length() + 5, 5);
        Due.fault(SIXTY + "w=a^2;want w;", SIXTY.length() + 5, 5);
        Due.fault(FIFTY_NINE + "w=a^9999 ;want w;", FIFTY_NINE.length() + 9, 5);

        Sentence.of("Terms", "6 at the ; of one by which an EXPONENT would be above 10 to the 15");
        int at = FaultTest.GREATEST.length();
        Due.is("10 to the 15 itself", Due.text(new PowerChains(), FaultTest.GREATEST + "want z;"), 58);
        Due.is("1 of another base", Due.text(new PowerChains(), FaultTest.GREATEST + "aa=z*b;want z;"), 59);
        Due.fault(FaultTest.GREATEST + "aa=z*a ;want z;", at + 7, 6);
        Due.fault(FaultTest.GREATEST + "aa=a*z;want z;", at + 6, 6);
        Due.fault(FaultTest.GREATEST + "aa=z^2;want z;", at + 6, 6);
        // 2 to the 49 is below, 2 to the 50 above; of each base.
        for (String base : new String[] {"a", "b", "c", "d"}) {
            String great = "base a b c d;t=" + base + "^8192;u=t^8192;v=u^4096;";
            Due.is("2 to the 49", Due.text(new PowerChains(), great + "w=v^2048;want w;"), 49);
            Due.fault(great + "w=v^4096;want w;", great.length() + 8, 6);
        }
    }

    private static void newObject() {
        Sentence.of("Promise 1", "No BASES, STEPS, WANTS; nothing is FOUND, SHELVES are empty.");
        PowerChains x = new PowerChains();
        for (int what = 0; what <= 11; what++) {
            Due.is("count(" + what + ")", x.count(what), 0);
        }
        Due.is("count(12)", x.count(12), -1);
        Due.is("node(0, 2)", Due.node(x, 0, 2), Due.NO_SUCH);
        Due.is("wanted(0)", x.wanted(0), -1);
        Due.is("exponent(0, 0)", x.exponent(0, 0), -1);
        Due.is("run(0, ..)", x.run(0, 2, 0, 0, 0, 0), -1);
        Due.is("found(0)", x.found(0), -1);
        for (int shelf = 0; shelf < 3; shelf++) {
            Due.is("load(" + shelf + ")", x.load(shelf), -1);
            Due.is("same(" + shelf + ")", x.same(shelf), -1);
        }
    }

    private static void feed() {
        Sentence.of("Promise 2", "Twenty bytes come behind THE TAPE, of each number the highest first: how many it has");
        PowerChains x = new PowerChains();
        Due.is("the first", x.feed(0x62617365, 0x20613B77, 0x616E7420, 0x613B2020, 0x20202020), 20);
        Due.is("bytes", x.count(10), 20);
        Due.is("base a;want a;", x.text(14), 0);
        // The second twenty stand behind the first: base ab;want abc is cut in two.
        Due.is("the first", x.feed(0x20202020, 0x62617365, 0x20616263, 0x3B77616E, 0x74206162), 20);
        Due.is("the second", x.feed(0x633B2020, 0x20202020, 0x20202020, 0x20202020, 0x20202020), 40);
        Due.is("base abc;want abc;", x.text(40), 0);
        // Each of the four bytes of a number, the others being blanks; 195 has its highest bit set.
        for (int at = 0; at < 4; at++) {
            int word = 0x20202020 & ~(255 << 24 - 8 * at) | 195 << 24 - 8 * at;
            x.feed(0x20202020, word, 0x20202020, 0x20202020, 0x20202020);
            Due.is("byte " + at + " of a number", x.text(20), -2 - (8 * (4 + at) + 1));
        }
        for (int at = 0; at < 5; at++) {
            int[] words = {0x20202020, 0x20202020, 0x20202020, 0x20202020, 0x20202020};
            words[at] = 0x21202020;
            x.feed(words[0], words[1], words[2], words[3], words[4]);
            Due.is("number " + at, x.text(20), -2 - (8 * 4 * at + 1));
        }

        Sentence.of("Promise 2", "NONE, and none come, if it would have more than 500.");
        x = new PowerChains();
        for (int i = 1; i <= 24; i++) {
            x.feed(0x20202020, 0x20202020, 0x20202020, 0x20202020, 0x20202020);
        }
        Due.is("at 480", x.count(10), 480);
        Due.is("up to 500", x.feed(0x20202020, 0x20202020, 0x20202020, 0x20202020, 0x20202021), 500);
        Due.is("up to 520", x.feed(0x21212121, 0, 0, 0, 0), -1);
        Due.is("again", x.feed(0, 0, 0, 0, 0), -1);
        Due.is("none came", x.count(10), 500);
        Due.is("the last one is there, and no other", x.text(500), -2 - (8 * 499 + 1));
        Due.is("room again", x.feed(0, 0, 0, 0, 0), 20);
    }

    private static void text() {
        Sentence.of("Promise 3", "The first n bytes of THE TAPE (it is empty then) are the PROGRAM: how many STEPS.");
        PowerChains x = new PowerChains();
        // base a;want a;!!!!!! : the first 14 are good, one more isn't.
        x.feed(0x62617365, 0x20613B77, 0x616E7420, 0x613B2121, 0x21212121);
        Due.is("text(14)", x.text(14), 0);
        Due.is("bytes then", x.count(10), 0);
        Due.is("text(1) then", x.text(1), -1);
        x.feed(0x62617365, 0x20613B77, 0x616E7420, 0x613B2121, 0x21212121);
        Due.is("text(15)", x.text(15), -2 - (8 * 14 + 1));
        Due.is("bytes behind a fault", x.count(10), 0);
        x.feed(0x62617365, 0x20613B77, 0x616E7420, 0x613B2121, 0x21212121);
        Due.is("text(0) of twenty", x.text(0), -2 - 1);
        Due.is("bytes then", x.count(10), 0);
        Due.is("text(0) of none", x.text(0), -2 - 1);
        // It may end within what would else go on: base ab, base a;t=a^23, blanks.
        x.feed(0x62617365, 0x2061623B, 0x77616E74, 0x2061623B, 0x20202020);
        Due.is("within a word", x.text(6), -2 - (8 * 6 + 1));
        x.feed(0x62617365, 0x20613B74, 0x3D615E32, 0x33333333, 0x33333333);
        Due.is("within a number", x.text(12), -2 - (8 * 12 + 1));
        x.feed(0x62617365, 0x20202020, 0x20202020, 0x20202020, 0x20202020);
        Due.is("within blanks", x.text(7), -2 - (8 * 7 + 1));
        Due.is("60 steps", Due.text(x, SIXTY + "want v;"), 60);
        Due.is("a text of the whole tape", Due.text(x, "base a;t=a*a;want t" + " ".repeat(480) + ";"), 1);
        Due.picture(x, "bases 1, 0*0 wants 1");

        Sentence.of("Promise 3", "NONE: it has not so many, n is below 0 (THE TAPE stays).");
        x = new PowerChains();
        Due.is("text(1) of none", x.text(1), -1);
        Due.is("text(-1) of none", x.text(-1), -1);
        x.feed(0x62617365, 0x20613B77, 0x616E7420, 0x613B2020, 0x20202020);
        for (int n : new int[] {21, 500, 501, -1, -20, MAX, MIN}) {
            Due.is("text(" + n + ") of twenty", x.text(n), -1);
            Due.is("bytes", x.count(10), 20);
        }
        Due.is("a program came", x.count(0), 0);
        Due.is("the twenty are as they were", x.text(20), 0);

        Sentence.of("Promise 3", "-2 less (8 * place + kind): a FAULT (all else stays).");
        x = Due.of("base a b;c=a*b;d=c*b;want d c;");
        x.save(1);
        x.add(0, 0);
        x.search(5, 100);
        for (String bad : new String[] {"", "base a b c d;t=a*d;want t a b c d;", "base q;r=q^7;want r r;;", "base q q",
            SIXTY + "w=a*b;", FaultTest.GREATEST + "aa=z*a;", "base a;t=a^1;"}) {
            Due.is("a fault of \"" + bad + "\"", Due.text(x, bad) <= -3 ? 1 : 0, 1);
            Due.picture(x, "bases 2, 0*1, 2*1, 0*0 wants 3 2");
            Due.is("what can be taken back", x.count(8), 2);
        }
        Due.is("shelves", x.count(9), 1);
        Due.is("the shelf's is as it was", x.load(1), 2);
        Due.is("visits", x.count(11), 4);
        Due.is("found", x.found(3), 5);
        Due.is("the load is taken back", x.undo(), 2);
        Due.is("the add is taken back", x.undo(), 1);
        Due.is("the text is taken back", x.undo(), 0);
        Due.fault("", 0, 1);
        Due.fault("base a;want a" + " ".repeat(487), 500, 1);
    }
}
