/** Promise 3: the faults of a text, each kind, its place, and which one goes ahead. */
public final class FaultTest {
    /** z has 10 to the 15: twice 15625 in 17 steps, 125 in 9, and 15 doublings. */
    static final String GREATEST = "base a b;"
            + "c=a^256;d=c^4;e=d*c;f=e*a;g=f^2;h=g*d;i=h^4;j=i*f;"
            + "k=j^256;l=k^4;m=l*k;n=m*j;o=n^2;p=o*l;q=p^4;r=q*n;"
            + "s=r^8;t=s^2;u=t*s;v=u*r;w=v^4;x=w*v;y=x^8192;z=y^4;";

    public static void main(String[] args) {
        unexpected();
        givenTwice();
        unknown();
        badNumbers();
        tooMany();
        tooGreat();
        leastPlaceFirst();
        Due.end();
    }

    private static void unexpected() {
        Due.fault("", 0, 1);
        Due.fault("   ", 3, 1);
        Due.fault("bas", 0, 1);
        Due.fault("bases a;want a;", 0, 1);
        Due.fault("want a;", 0, 1);
        Due.fault("; base a;want a;", 0, 1);
        Due.fault("12", 0, 1);
        Due.fault("base", 4, 1);
        Due.fault("base ;want a;", 5, 1);
        Due.fault("base base;want a;", 5, 1);
        Due.fault("base want;want a;", 5, 1);
        Due.fault("base abcde;want a;", 5, 1);
        Due.fault("base a 1;want a;", 7, 1);
        Due.fault("base a=", 6, 1);
        Due.fault("base a want a;", 7, 1);
        Due.fault("base A;want a;", 5, 1);
        Due.fault("base aB;want a;", 6, 1);
        Due.fault("base\ta;want a;", 4, 1);
        Due.fault("base\ra;want a;", 4, 1);
        Due.fault("base a;", 7, 1);
        Due.fault("base a;  ", 9, 1);
        Due.fault("base a;base b;want a;", 7, 1);
        Due.fault("base a;;want a;", 7, 1);
        Due.fault("base a;wants=a*a;want a;", 7, 1);
        Due.fault("base a;5=a*a;want a;", 7, 1);
        Due.fault("base a;t a*a;want a;", 9, 1);
        Due.fault("base a;t=;want a;", 9, 1);
        Due.fault("base a;t=want*a;want a;", 9, 1);
        Due.fault("base a;t=5;want a;", 9, 1);
        Due.fault("base a;t=a;want t;", 10, 1);
        Due.fault("base a;t=a=a;want t;", 10, 1);
        Due.fault("base a;t=a+a;want t;", 10, 1);
        Due.fault("base a;t=a*;want t;", 11, 1);
        Due.fault("base a;t=a*2;want t;", 11, 1);
        Due.fault("base a;t=a*aaaaa;want t;", 11, 1);
        Due.fault("base a;t=a^a;want t;", 11, 1);
        Due.fault("base a;t=a^;want t;", 11, 1);
        Due.fault("base a;t=a^-1;want t;", 11, 1);
        Due.fault("base a;t=a*a want t;", 13, 1);
        Due.fault("base a;t=a*a*a;want t;", 12, 1);
        Due.fault("base a;t=a^5a;want t;", 12, 1);
        Due.fault("base a;t=a^5 6;want t;", 13, 1);
        Due.fault("base a;t=a*a", 12, 1);
        Due.fault("base a;want", 11, 1);
        Due.fault("base a;want ;", 12, 1);
        Due.fault("base a;want a", 13, 1);
        Due.fault("base a;want a want;", 14, 1);
        Due.fault("base a;want a base;", 14, 1);
        Due.fault("base a;want aaaaa;", 12, 1);
        Due.fault("base a;want 1;", 12, 1);
        Due.fault("base a;want a;;", 14, 1);
        Due.fault("base a;want a; want a;", 15, 1);
        Due.fault("base a;want a;\n \001", 16, 1);
    }

    private static void givenTwice() {
        Due.fault("base a a;want a;", 7, 2);
        Due.fault("base a b;b=a*a;want a;", 9, 2);
        Due.fault("base a b;t=a*a;t=a*b;want a;", 15, 2);
        Due.fault("base a;t=a^7;t=a*a;want a;", 13, 2);
        // It is given there, whatever comes behind it.
        Due.fault("base a;a", 7, 2);
        Due.fault("base a;a a", 7, 2);
    }

    private static void unknown() {
        Due.fault("base a;t=b*a;want t;", 9, 3);
        Due.fault("base a;t=a*b;want t;", 11, 3);
        Due.fault("base a;t=b^2;want t;", 9, 3);
        Due.fault("base a;t=t*a;want t;", 9, 3);
        Due.fault("base a;t=a*t;want t;", 11, 3);
        Due.fault("base a;t=t^2;want t;", 9, 3);
        Due.fault("base a;t=u*a;u=a*a;want t;", 9, 3);
        Due.fault("base a;want b;", 12, 3);
        Due.fault("base a;want a b;", 14, 3);
        Due.fault("base ab;want a;", 13, 3);
        Due.fault("base abcd;want abcc;", 15, 3);
    }

    private static void badNumbers() {
        Due.fault("base a;t=a^0;want t;", 11, 4);
        Due.fault("base a;t=a^1;want t;", 11, 4);
        Due.fault("base a;t=a^ 0001;want t;", 12, 4);
        Due.fault("base a;t=a^10000;want t;", 11, 4);
        Due.fault("base a;t=a^00002;want t;", 11, 4);
        Due.fault("base a;t=a^99999999999999999999;want t;", 11, 4);
        // 2 to the 32, and 2 more: a worth that goes round must not be taken for 2.
        Due.fault("base a;t=a^4294967298;want t;", 11, 4);
        Due.fault("base a;t=a^12345X", 11, 4);
    }

    private static void tooMany() {
        Due.fault("base a b c d e;want a;", 13, 5);
        Due.fault("base a b c d a;want a;", 13, 2);
        Due.fault("base a b c d base;want a;", 13, 1);
        Due.fault("base a;want a a a a a;", 20, 5);
        Due.fault("base a;want a a a a b;", 20, 3);
        Due.fault("base a;want a a a a want;", 20, 1);
        PowerChains x = Due.of("base a b c d;want d c b a;");
        Due.wants(x, 3, 2, 1, 0);

        // 9999 has 20 steps by BINARY, 9998 has 19.
        String threeTimes = "base a b c;t=a^9999;u=b^9999;v=c^9999;";
        x = Due.of(threeTimes + "want v;");
        Due.is("steps", x.count(1), 60);
        Due.fault(threeTimes + "w=a*b;want v;", 43, 5);
        Due.fault(threeTimes + "w=a*b want v;", 44, 1);
        Due.fault("base a b c;t=a^9999;u=b^9999;s=a*a;v=c^9999;want v;", 43, 5);
        x = Due.of("base a b c;t=a^9999;u=b^9999;s=a*a;v=c^9998;want v;");
        Due.is("steps", x.count(1), 60);
        Due.is("add beyond 60", x.add(0, 0), -1);

        StringBuilder text = new StringBuilder("base a;");
        for (int i = 0; i < 60; i++) {
            text.append((char) ('b' + i / 24)).append((char) ('a' + i % 24)).append("=a*a;");
        }
        x = Due.of(text + "want bb;");
        Due.is("60 statements", x.count(1), 60);
        Due.fault(text + "x=a*a;want bb;", text.length() + 5, 5);
        Due.fault(text + "x=a^3;want bb;", text.length() + 5, 5);
        Due.fault(text + "bb=a*a;want bb;", text.length(), 2);
    }

    private static void tooGreat() {
        PowerChains x = Due.of(GREATEST + "want z;");
        Due.is("steps", x.count(1), 58);
        Due.exponents(x, 59, 1_000_000_000_000_000L, 0);
        int at = GREATEST.length();
        Due.fault(GREATEST + "aa=z*a;want z;", at + 6, 6);
        Due.fault(GREATEST + "aa=a*z;want z;", at + 6, 6);
        Due.fault(GREATEST + "aa=z^2;want z;", at + 6, 6);
        Due.fault(GREATEST + "aa=z^3;want z;", at + 6, 6);
        // The exponents of each base are looked at on their own.
        x = Due.of(GREATEST + "aa=z*b;want aa;");
        Due.exponents(x, 60, 1_000_000_000_000_000L, 1);
        Due.fault(GREATEST + "aa=z*b;ab=aa*a;want z;", at + 14, 6);
        x = Due.of(GREATEST + "aa=z*b;ab=aa*b;want z;");
        Due.exponents(x, 61, 1_000_000_000_000_000L, 2);
        // More than 60 steps goes ahead of an exponent at one ;.
        Due.fault(GREATEST + "aa=z^5;want z;", at + 6, 5);
        Due.fault(GREATEST + "aa=z*b;ab=aa*b;ac=z*a;want z;", at + 21, 5);

        x = Due.of("base a;t=a^8192;u=t^8192;v=u^4096;w=v^2048;want w;");
        Due.exponents(x, 49, 1L << 49);
        Due.fault("base a;t=a^8192;u=t^8192;v=u^4096;w=v^4096;want w;", 42, 6);
        // The step that is too great may stand within a power.
        Due.fault("base a;t=a^8192;u=t^8192;v=u^8192;w=v^9999;want w;", 42, 6);
        // The last base of four counts as well.
        Due.fault("base a b c d;t=d^8192;u=t^8192;v=u^4096;w=v^4096;want w;", 48, 6);
    }

    private static void leastPlaceFirst() {
        Due.fault("base a a b c d e;t=?", 7, 2);
        Due.fault("base a;t=b*c", 9, 3);
        Due.fault("base a;t=a^1!", 11, 4);
        Due.fault("base a;a=b*a", 7, 2);
        Due.fault("base a b c d e;?", 13, 5);
        Due.fault("base a;t=a*a;t=?", 13, 2);
        Due.fault("base ?a a", 5, 1);
    }
}
