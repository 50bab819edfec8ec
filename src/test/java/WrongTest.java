/** Promises 24 to 29: see, canBe, tries, hear, fits, forget. */
public final class WrongTest {
    private static final Due due = new Due();

    public static void main(String[] args) {
        see();
        canBe();
        tries();
        hear();
        fits();
        forget();
        due.end();
    }

    private static int bits(int... numbers) {
        int bits = 0;
        for (int n : numbers) bits |= 1 << n;
        return bits;
    }

    private static void see() {
        LetterNeedles x = new LetterNeedles();
        due.is("see(-1, 0)", x.see(-1, 0), LetterNeedles.BAD);
        due.is("see(30, 0)", x.see(30, 0), LetterNeedles.BAD);
        due.is("see(0, -1)", x.see(0, -1), LetterNeedles.BAD);
        due.is("see(0, 32)", x.see(0, 32), LetterNeedles.BAD);
        for (int i = 1; i <= 8; i++) due.is("see, numbered " + i, x.see(29, i == 1 ? 31 : 29), i);
        due.is("see the ninth", x.see(0, 0), LetterNeedles.FULL);
        due.is("see(30, 0) when full", x.see(30, 0), LetterNeedles.BAD);
        due.is("count(7)", x.count(7), 8);
    }

    private static int canBeBy(String text, int... seen) {
        LetterNeedles x = Due.laid(text);
        for (int i = 0; i < seen.length; i += 2) x.see(seen[i], seen[i + 1]);
        return x.canBe();
    }

    private static void canBe() {
        due.is("nothing seen", canBeBy("mA;"), (1 << 25) - 1);
        due.is("A as A", canBeBy("mA;", 0, 0), bits(1, 2, 3, 6, 7, 8, 11, 12, 15, 16, 17, 19, 21, 22, 23, 24));
        due.is("20 as nothing", canBeBy("mA;", 20, 30), bits(0, 14));
        due.is("20 as 25", canBeBy("mA;", 20, 25), bits(5));
        due.is("20 as a muddle", canBeBy("mA;", 20, 31), bits(10, 20));
        due.is("24 as nothing", canBeBy("mA;", 24, 30), bits(4, 18));
        due.is("24 as 29", canBeBy("mA;", 24, 29), bits(9));
        due.is("24 as a muddle", canBeBy("mA;", 24, 31), bits(13));
        due.is("23 as a muddle", canBeBy("mA;", 23, 31), bits(12, 13, 23));
        due.is("L as nothing", canBeBy("mA;", 9, 30), bits(13));
        due.is("20 as 24", canBeBy("mA;", 20, 24), 0);
        due.is("all figures right", canBeBy("mA;", 20, 20, 21, 21, 22, 22, 23, 23, 24, 24), bits(19, 24));
        due.is("the line as it is is no matter", canBeBy("n0,4;c1;t2;j3;mA;", 20, 31), bits(10, 20));
    }

    private static void tries() {
        LetterNeedles x = new LetterNeedles();
        due.is("tries(-1)", x.tries(-1), LetterNeedles.BAD);
        due.is("tries(2)", x.tries(2), LetterNeedles.BAD);
        x.see(20, 31);
        // D tells wires that touch (a muddle) from a LED one (as it is); A and B do not
        due.is("touching or LED: which", x.tries(0), 2);
        due.is("touching or LED: the greatest part", x.tries(1), 1);
        x.forget(0);
        x.see(20, 30);
        // CUT and STIFF are alike by any SIGN in one BEAT
        due.is("cut or stiff: which", x.tries(0), 0);
        due.is("cut or stiff: the greatest part", x.tries(1), 2);
        x.forget(0);
        x.see(20, 25);
        due.is("one is left: which", x.tries(0), LetterNeedles.NONE);
        due.is("one is left: the greatest part", x.tries(1), LetterNeedles.NONE);
        due.is("one is left: tries(2)", x.tries(2), LetterNeedles.BAD);
        x.see(20, 24);
        due.is("none is left", x.tries(0), LetterNeedles.NONE);
    }

    private static void hear() {
        LetterNeedles x = new LetterNeedles();
        due.is("hear(-1)", x.hear(-1), LetterNeedles.BAD);
        due.is("hear(20)", x.hear(20), LetterNeedles.BAD);
        due.is("hear(30)", x.hear(30), LetterNeedles.BAD);
        due.is("hear(32)", x.hear(32), LetterNeedles.BAD);
        int[] signs = {0, 19, 31, 5, 0, 19, 31, 5};
        for (int i = 0; i < 8; i++) due.is("hear, numbered " + i, x.hear(signs[i]), i + 1);
        due.is("hear the ninth", x.hear(0), LetterNeedles.FULL);
        due.is("hear(20) when full", x.hear(20), LetterNeedles.BAD);
        due.is("count(8)", x.count(8), 8);
    }

    private static int fitsBy(int... heard) {
        LetterNeedles x = Due.laid("mCAB;mKAB;mKAD;mA;mQUAKERSX;mZAB;");
        for (int sign : heard) x.hear(sign);
        return x.fits();
    }

    private static void fits() {
        due.is("none heard", fitsBy(), 0);
        due.is("KAB: CAB, too", fitsBy(8, 0, 1), bits(0, 1));
        due.is("KA and a muddle", fitsBy(8, 0, 31), bits(0, 1, 2));
        due.is("three muddles", fitsBy(31, 31, 31), bits(0, 1, 2, 5));
        due.is("a muddle, AB", fitsBy(31, 0, 1), bits(0, 1, 5));
        due.is("A", fitsBy(0), bits(3));
        due.is("B", fitsBy(1), 0);
        due.is("KA", fitsBy(8, 0), 0);
        due.is("eight", fitsBy(8, 18, 0, 8, 3, 14, 15, 15), bits(4));
        due.is("eight, the last one not", fitsBy(8, 18, 0, 8, 3, 14, 15, 16), 0);
    }

    private static void forget() {
        LetterNeedles x = new LetterNeedles();
        x.see(0, 0);
        x.see(20, 25);
        x.hear(3);
        due.is("forget(-1)", x.forget(-1), LetterNeedles.BAD);
        due.is("forget(2)", x.forget(2), LetterNeedles.BAD);
        due.is("forget(0)", x.forget(0), 2);
        due.is("count(7)", x.count(7), 0);
        due.is("count(8)", x.count(8), 1);
        due.is("canBe()", x.canBe(), (1 << 25) - 1);
        due.is("forget(0) again", x.forget(0), 0);
        due.is("forget(1)", x.forget(1), 1);
        due.is("count(8)", x.count(8), 0);
    }
}
