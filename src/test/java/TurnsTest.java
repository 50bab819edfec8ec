/** Promises 30 to 33: duel, odds, mean, day. */
public final class TurnsTest {
    private static final Due due = new Due();

    public static void main(String[] args) {
        duel();
        odds();
        mean();
        day();
        dayFromNowOn();
        due.end();
    }

    private static void duelIs(String text, int... byTurns) {
        LetterNeedles x = Due.laid(text);
        int[] got = new int[5];
        for (int n = 0; n < 5; n++) got[n] = x.duel(0, n);
        due.are(text + " duel(0, n)", got, byTurns);
        due.is(text + " nothing was done", x.count(5), 0);
    }

    private static void duel() {
        duelIs("mA;", 1, 0, 1, 0, 1);
        duelIs("mAF;", 2, 1, 2, 1, 2);
        duelIs("c2;mAI;", 1, 0, 1, 0, 1);
        // to CUT wire 1 would part it from wire 0, so that one lets it be
        duelIs("j0;mA;", 0, 0, 0, 0, 0);
        // the one who MENDS gains one letter, be it by wire 0 or by the one that was CUT (3)
        duelIs("t0;mABF;", 1, 0, 1, 0, 1);
        // to CUT wire 0 would help: what is MENDED then is TURNED no more
        duelIs("t0;mAR;", 0, 0, 1, 0, 1);
        // LAZY by 1 and 1: NOTHING between them lets D come right
        duelIs("n0,2;mAD;", 2, 0, 2, 0, 2);
        // STIFF by 1 and 1: nothing helps
        duelIs("n0,1;mA;", 0, 0, 0, 0, 0);
        // what is MENDED in the second turn stays so in the third and fourth, whatever is CUT then
        duelIs("j0;mNRSA;", 0, 0, 2, 1, 2);
        duelIs("j0;mXWTVYEIM;", 1, 0, 5, 2, 5);
        // both faults must be MENDED, so nothing comes right ahead of the fourth turn
        duelIs("j0;j3;mBA;", 0, 0, 0, 0, 1);
        duelIs("t0;j1;mRH;", 0, 0, 0, 0, 1);
        LetterNeedles x = Due.laid("n0,5;mD;");
        x.send(20);
        due.is("from rest", x.duel(0, 0), 1);
        due.is("duel(-1, 0)", x.duel(-1, 0), LetterNeedles.BAD);
        due.is("duel(1, 0)", x.duel(1, 0), LetterNeedles.BAD);
        due.is("duel(0, -1)", x.duel(0, -1), LetterNeedles.BAD);
        due.is("duel(0, 5)", x.duel(0, 5), LetterNeedles.BAD);
    }

    private static void oddsAre(String text, int sign, int x, int above, int below) {
        LetterNeedles line = Due.laid(text);
        due.is(text + " odds(" + sign + ", " + x + ", 0)", line.odds(sign, x, 0), above);
        due.is(text + " odds(" + sign + ", " + x + ", 1)", line.odds(sign, x, 1), below);
    }

    private static void odds() {
        oddsAre("mA;", 0, 0, 1, 1);
        oddsAre("mA;", 0, 3, 49, 100);
        oddsAre("mA;", 0, 5, 1, 4);
        oddsAre("mA;", 0, 10, 0, 1);
        oddsAre("mA;", 20, 3, 7, 10);
        oddsAre("mA;", 29, 4, 3, 5);
        oddsAre("c0;mA;", 0, 3, 0, 1);
        oddsAre("t0;mA;", 0, 3, 0, 1);
        // one more is not upright, and must be slack
        oddsAre("j3;mA;", 0, 3, 147, 1000);
        oddsAre("j3;mA;", 0, 0, 0, 1);
        // of five to the right four must be slack
        oddsAre("j0;j1;j2;j3;mA;", 20, 1, 9, 100000);
        oddsAre("j0;j1;j2;j3;mA;", 20, 10, 0, 1);
        oddsAre("n0,1;mA;", 0, 3, 0, 1);
        oddsAre("n1,3;mA;", 20, 2, 4, 25);
        LetterNeedles x = Due.laid("n0,5;mA;");
        x.send(20);
        due.is("from rest", x.odds(21, 3, 0), 7);
        due.is("odds(-1, 0, 0)", x.odds(-1, 0, 0), LetterNeedles.BAD);
        due.is("odds(30, 0, 0)", x.odds(30, 0, 0), LetterNeedles.BAD);
        due.is("odds(0, -1, 0)", x.odds(0, -1, 0), LetterNeedles.BAD);
        due.is("odds(0, 11, 0)", x.odds(0, 11, 0), LetterNeedles.BAD);
        due.is("odds(0, 0, -1)", x.odds(0, 0, -1), LetterNeedles.BAD);
        due.is("odds(0, 0, 2)", x.odds(0, 0, 2), LetterNeedles.BAD);
    }

    private static void meanIs(String text, int x, int above, int below) {
        LetterNeedles line = Due.laid(text);
        due.is(text + " mean(0, " + x + ", 0)", line.mean(0, x, 0), above);
        due.is(text + " mean(0, " + x + ", 1)", line.mean(0, x, 1), below);
    }

    private static void mean() {
        meanIs("mAB;", 0, 2, 1);
        meanIs("mAB;", 5, 1, 2);
        meanIs("mABD;", 3, 147, 100);
        meanIs("mABDEFGHI;", 1, 162, 25);
        meanIs("mAB;", 10, 0, 1);
        meanIs("c0;mABF;", 3, 49, 100);
        meanIs("j3;mAE;", 3, 637, 1000);
        // each from rest, so that a STUCK or LAZY one is no matter
        meanIs("n0,5;n4,2;mADAD;", 5, 1, 1);
        LetterNeedles x = Due.laid("mA;");
        due.is("mean(-1, 0, 0)", x.mean(-1, 0, 0), LetterNeedles.BAD);
        due.is("mean(1, 0, 0)", x.mean(1, 0, 0), LetterNeedles.BAD);
        due.is("mean(0, -1, 0)", x.mean(0, -1, 0), LetterNeedles.BAD);
        due.is("mean(0, 11, 0)", x.mean(0, 11, 0), LetterNeedles.BAD);
        due.is("mean(0, 0, -1)", x.mean(0, 0, -1), LetterNeedles.BAD);
        due.is("mean(0, 0, 2)", x.mean(0, 0, 2), LetterNeedles.BAD);
    }

    private static void dayIs(String text, int z, int n, int right, int muddles, int cut) {
        LetterNeedles x = Due.laid(text);
        int[] got = {x.day(z, n, 0), x.day(z, n, 1), x.day(z, n, 2)};
        due.are(text + " day(" + z + ", " + n + ", what)", got, right, muddles, cut);
    }

    private static void day() {
        // z = 0: A, NEEDLES 3 and 4 changed, T, ..
        dayIs("mA;", 0, 1, 1, 0, 0);
        dayIs("j0;mA;", 0, 1, 0, 1, 0);
        dayIs("mA;", 0, 3, 2, 0, 0);
        dayIs("n3,1;mA;", 0, 3, 1, 0, 0);
        dayIs("n4,1;mA;", 0, 3, 1, 0, 0);
        // z = 2: 0 cut, NOTHING, I, 0 cut (it is), 0 mended, 2 mended (it can not be), 3 cut, F
        dayIs("mA;", 2, 1, 0, 0, 1);
        dayIs("mA;", 2, 2, 1, 0, 1);
        dayIs("mA;", 2, 3, 2, 0, 1);
        dayIs("mA;", 2, 4, 2, 0, 1);
        dayIs("mA;", 2, 5, 2, 0, 0);
        dayIs("mA;", 2, 6, 2, 0, 0);
        dayIs("mA;", 2, 7, 2, 0, 1);
        dayIs("mA;", 2, 8, 2, 0, 1);
        // z = 9999: NEEDLES 1 and 2 changed, S
        dayIs("n1,1;mA;", 9999, 2, 1, 0, 0);
        dayIs("n2,1;mA;", 9999, 2, 0, 0, 0);
        // z = 86: NEEDLES 4 and 0 changed, 24
        dayIs("n4,1;mA;", 86, 2, 1, 0, 0);
        dayIs("n0,1;mA;", 86, 2, 0, 0, 0);
        LetterNeedles x = new LetterNeedles();
        due.is("day(-1, 1, 0)", x.day(-1, 1, 0), LetterNeedles.BAD);
        due.is("day(10000, 1, 0)", x.day(10000, 1, 0), LetterNeedles.BAD);
        due.is("day(0, 0, 0)", x.day(0, 0, 0), LetterNeedles.BAD);
        due.is("day(0, 61, 0)", x.day(0, 61, 0), LetterNeedles.BAD);
        due.is("day(0, 1, -1)", x.day(0, 1, -1), LetterNeedles.BAD);
        due.is("day(0, 1, 3)", x.day(0, 1, 3), LetterNeedles.BAD);
    }

    private static void dayFromNowOn() {
        LetterNeedles x = Due.laid("n0,5;mA;");
        due.is("ahead of it", x.day(2, 2, 0), 1);
        x.send(20);
        due.is("a STUCK one still stands", x.day(2, 2, 0), 0);
        due.is("nothing was done: reads()", x.reads(), 20);
        due.is("nothing was done: count(1)", x.count(1), 0);
        due.is("nothing was done: count(5)", x.count(5), 1);
        x.cut(4);
        due.is("a WIRE that was CUT counts, too", x.day(0, 1, 2), 1);
        due.is("and one more", x.day(2, 1, 2), 2);
    }
}
