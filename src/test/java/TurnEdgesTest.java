import java.math.BigInteger;

/** The sentences of part 5 that name an edge: by turns, SLACK, a DAY, KEPT, how many (promises 30 to 36). */
public final class TurnEdgesTest {
    private static final Due due = new Due();
    private static final String ALL_CUT = "c0;c1;c2;c3;c4;";
    private static final String[] LINES = {
        "", "n0,1;n1,2;n2,3;n3,4;n4,5;", "n0,5;n1,4;n2,1;n3,2;n4,3;t1;j3;", "n1,1;n3,2;j3;", "c0;t1;j2;", "j0;j1;j2;j3;", ALL_CUT,
    };

    public static void main(String[] args) {
        turnsFromNoneToFour();
        mendedStaysMended();
        nothingToCutOrMend();
        noneIsBetter();
        slackFromNoneToAll();
        oddsByAllThatCanBeSlack();
        meanFromNoneToEight();
        dayAtBothEnds();
        dayAsByDeeds();
        dayOfEveryNumber();
        placeZeroBehindFour();
        twoKept();
        keptIsTheLine();
        countsFromNoneToAll();
        due.end();
    }

    /** By turns on lines of their own: path tells the WIRE of each turn so far, 5 for none. */
    private static int byTurns(String text, int n, String path) {
        if (path.length() == n) return played(text, path).said(0, 1, 1, -1);
        boolean isCutting = path.length() % 2 == 0;
        int best = byTurns(text, n, path + "5");
        for (int p = 0; p < 5; p++) {
            LetterNeedles x = played(text, path);
            if ((isCutting ? x.cut(p) : x.mend(p)) == LetterNeedles.NO) continue;
            int other = byTurns(text, n, path + p);
            best = isCutting ? Math.min(best, other) : Math.max(best, other);
        }
        return best;
    }

    private static LetterNeedles played(String text, String path) {
        LetterNeedles x = Due.laid(text);
        for (int i = 0; i < path.length(); i++) {
            int p = path.charAt(i) - '0';
            if (p == 5) continue;
            if (i % 2 == 0) x.cut(p);
            else x.mend(p);
        }
        return x;
    }

    /** "By turns, n (0 to 4) in all". */
    private static void turnsFromNoneToFour() {
        for (String line : LINES) {
            for (String message : new String[] {"mAFKL;", "mQUAKER;"}) {
                LetterNeedles x = Due.laid(line + message);
                due.is(line + message + " none: as it is SAID", x.duel(0, 0), x.said(0, 1, 1, -1));
                for (int n = 0; n <= 4; n++) {
                    due.is(line + message + " duel(0, " + n + ")", x.duel(0, n), byTurns(line + message, n, ""));
                }
                due.is("duel(0, -1)", x.duel(0, -1), LetterNeedles.BAD);
                due.is("duel(0, 5)", x.duel(0, 5), LetterNeedles.BAD);
            }
        }
        LetterNeedles x = Due.laid("mABDEFGHI;mA;mA;mA;mA;mHKA;");
        due.is("all eight", x.duel(0, 0), 8);
        due.is("the last MESSAGE", x.duel(5, 0), 3);
        due.is("the last MESSAGE, one CUT: 0 is used twice", x.duel(5, 1), 1);
        due.is("behind the last MESSAGE", x.duel(6, 0), LetterNeedles.BAD);
    }

    /** "and so on": lines on which the third and fourth turn hang on what was MENDED in the second. */
    private static void mendedStaysMended() {
        for (String text : new String[] {"j0;mNRSA;", "j0;mVSWR;", "j0;mXWTVYEIM;", "j0;j3;mBA;", "t0;j1;mRH;", "j0;c2;j3;mYB;", "j0;j1;j2;mEH;"}) {
            LetterNeedles x = Due.laid(text);
            for (int n = 0; n <= 4; n++) due.is(text + " duel(0, " + n + ")", x.duel(0, n), byTurns(text, n, ""));
        }
    }

    /** "one CUTS a WIRE that is not CUT (or none), then another one MENDS one that can be (or none)". */
    private static void nothingToCutOrMend() {
        LetterNeedles x = Due.laid(ALL_CUT + "mABD;");
        for (int n = 0; n <= 4; n++) due.is("all CUT: duel(0, " + n + ")", x.duel(0, n), 0);
        // with all NEEDLES CONTRARY nothing is ever RIGHT, CUT or MENDED
        x = Due.laid("n0,4;n1,4;n2,4;n3,4;n4,4;mABD;");
        for (int n = 0; n <= 4; n++) due.is("CONTRARY: duel(0, " + n + ")", x.duel(0, n), 0);
    }

    /** Where it would do harm, none is CUT, none MENDED. */
    private static void noneIsBetter() {
        // WIRE 0 being CUT, the STUCK one never moves, and all but A come right; MENDED, A does and no other one
        LetterNeedles x = Due.laid("c0;n0,5;mADFG;");
        due.is("as it is", x.duel(0, 0), 3);
        due.is("4 is CUT: only F", x.duel(0, 1), 1);
        due.is("4 is MENDED again, not 0", x.duel(0, 2), 3);
        // whole, the STUCK one spoils all behind A; to CUT 0 would help
        x = Due.laid("n0,5;mADFG;");
        due.is("as it is", x.duel(0, 0), 1);
        due.is("4 is CUT: not even A", x.duel(0, 1), 0);
        due.is("what is MENDED helps A", x.duel(0, 2), 1);
    }

    private static void oddsAre(String text, int sign, int x, int above, int below) {
        LetterNeedles line = Due.laid(text);
        due.is(text + " odds(" + sign + ", " + x + ", 0)", line.odds(sign, x, 0), above);
        due.is(text + " odds(" + sign + ", " + x + ", 1)", line.odds(sign, x, 1), below);
    }

    /** "SLACK by x (0 to 10)"; "(Lowest terms; 0 by 1.)" */
    private static void slackFromNoneToAll() {
        for (int sign : new int[] {0, 19}) {
            oddsAre("mA;", sign, 0, 1, 1);
            oddsAre("mA;", sign, 1, 81, 100);
            oddsAre("mA;", sign, 9, 1, 100);
            oddsAre("mA;", sign, 10, 0, 1);
        }
        for (int sign : new int[] {20, 29}) {
            oddsAre("mA;", sign, 0, 1, 1);
            oddsAre("mA;", sign, 1, 9, 10);
            oddsAre("mA;", sign, 9, 1, 10);
            oddsAre("mA;", sign, 10, 0, 1);
        }
        for (int x = 0; x <= 10; x++) oddsAre(ALL_CUT + "mA;", 0, x, 0, 1);
        // four of five have to be SLACK, one not
        oddsAre("j0;j1;j2;j3;mA;", 20, 0, 0, 1);
        oddsAre("j0;j1;j2;j3;mA;", 20, 1, 9, 100000);
        oddsAre("j0;j1;j2;j3;mA;", 20, 9, 6561, 100000);
        oddsAre("j0;j1;j2;j3;mA;", 20, 10, 0, 1);
        LetterNeedles line = Due.laid("mA;");
        due.is("odds(29, 10, 1)", line.odds(29, 10, 1), 1);
        due.is("odds(30, 10, 1)", line.odds(30, 10, 1), LetterNeedles.BAD);
        due.is("odds(29, 11, 1)", line.odds(29, 11, 1), LetterNeedles.BAD);
        due.is("odds(29, 10, 2)", line.odds(29, 10, 2), LetterNeedles.BAD);
    }

    /** Of 100000, by trying all sets of the five to be SLACK. */
    private static long chances(String text, int sign, int x) {
        LetterNeedles line = Due.laid(text);
        line.send(sign);
        LetterNeedles wanted = Due.laid("mA;");
        wanted.send(sign);
        long all = 0;
        for (int slack = 0; slack < 32; slack++) {
            long chance = 1;
            boolean isSo = true;
            for (int p = 0; p < 5; p++) {
                boolean isSlack = (slack >> p & 1) == 1;
                chance *= isSlack ? x : 10 - x;
                isSo &= (isSlack ? 0 : line.needle(p, 1)) == wanted.needle(p, 1);
            }
            all += isSo ? chance : 0;
        }
        return all;
    }

    private static long inLowestTerms(long above, int part) {
        long divisor = BigInteger.valueOf(above).gcd(BigInteger.valueOf(100000)).longValue();
        return (part == 0 ? above : 100000) / divisor;
    }

    private static void oddsByAllThatCanBeSlack() {
        for (String line : LINES) {
            String text = line + "mABDEFGHI;mZ;";
            for (int x = 0; x <= 10; x++) {
                LetterNeedles asked = Due.laid(text);
                for (int sign = 0; sign < 30; sign++) {
                    long above = chances(text, sign, x);
                    for (int part = 0; part < 2; part++) {
                        String call = text + " odds(" + sign + ", " + x + ", " + part + ")";
                        due.is(call, asked.odds(sign, x, part), inLowestTerms(above, part));
                    }
                }
                for (int message = 0; message < 2; message++) {
                    long above = 0;
                    for (int k = 0; k < asked.spelt(message, -1); k++) above += chances(text, asked.spelt(message, k), x);
                    for (int part = 0; part < 2; part++) {
                        String call = text + " mean(" + message + ", " + x + ", " + part + ")";
                        due.is(call, asked.mean(message, x, part), inLowestTerms(above, part));
                    }
                }
            }
        }
    }

    private static void meanIs(String text, int message, int x, int above, int below) {
        LetterNeedles line = Due.laid(text);
        due.is(text + " mean(" + message + ", " + x + ", 0)", line.mean(message, x, 0), above);
        due.is(text + " mean(" + message + ", " + x + ", 1)", line.mean(message, x, 1), below);
    }

    private static void meanFromNoneToEight() {
        meanIs("mA;", 0, 0, 1, 1);
        meanIs("mA;", 0, 10, 0, 1);
        meanIs("mABDEFGHI;", 0, 0, 8, 1);
        meanIs("mABDEFGHI;", 0, 1, 162, 25);
        meanIs("mABDEFGHI;", 0, 10, 0, 1);
        meanIs("mABDEFGHI;mA;mA;mA;mA;mAB;", 5, 0, 2, 1);
        meanIs(ALL_CUT + "mABDEFGHI;", 0, 5, 0, 1);
        LetterNeedles x = Due.laid("mA;");
        due.is("mean(0, 11, 0)", x.mean(0, 11, 0), LetterNeedles.BAD);
        due.is("mean(1, 10, 0)", x.mean(1, 10, 0), LetterNeedles.BAD);
        due.is("mean(0, 10, 2)", x.mean(0, 10, 2), LetterNeedles.BAD);
    }

    /** "A DAY by z (0 to 9999) of n (1 to 60)". */
    private static void dayAtBothEnds() {
        LetterNeedles x = Due.laid("mA;");
        // k = 0, z = 0: DRAW is 1, SIGN 0 is SENT
        due.is("day(0, 1, 0)", x.day(0, 1, 0), 1);
        due.is("day(0, 1, 1)", x.day(0, 1, 1), 0);
        due.is("day(0, 1, 2)", x.day(0, 1, 2), 0);
        for (int what = 0; what < 3; what++) {
            due.is("day(-1, 1, .)", x.day(-1, 1, what), LetterNeedles.BAD);
            due.is("day(10000, 1, .)", x.day(10000, 1, what), LetterNeedles.BAD);
            due.is("day(0, 0, .)", x.day(0, 0, what), LetterNeedles.BAD);
            due.is("day(0, 61, .)", x.day(0, 61, what), LetterNeedles.BAD);
            due.holds("day(9999, 60, .)", x.day(9999, 60, what) >= 0);
        }
        due.is("day(0, 1, -1)", x.day(0, 1, -1), LetterNeedles.BAD);
        due.is("day(0, 1, 3)", x.day(0, 1, 3), LetterNeedles.BAD);
    }

    private static int draw(int z, int k) {
        BigInteger x = BigInteger.valueOf(7919).multiply(BigInteger.valueOf(z))
            .add(BigInteger.valueOf(6151).multiply(BigInteger.valueOf(k))).add(BigInteger.ONE);
        return x.multiply(x).mod(BigInteger.valueOf(65521)).intValue();
    }

    /** A DAY done by DEEDS: READ as they are, MUDDLES, CUT. */
    private static int[] done(LetterNeedles x, int z, int n) {
        int[] all = new int[3];
        for (int k = 0; k < n; k++) {
            int draw = draw(z, k);
            int sign = draw / 8 % 31;
            int p = draw / 64 % 5;
            if (draw % 8 < 5) {
                int read = x.send(sign);
                all[0] += read == sign ? 1 : 0;
                all[1] += read == 31 ? 1 : 0;
            } else if (draw % 8 == 5) {
                x.cut(p);
            } else if (draw % 8 == 6) {
                x.mend(p);
            } else {
                x.change(p, p == 4 ? 0 : p + 1);
            }
        }
        all[2] = x.count(1);
        return all;
    }

    private static void dayAsByDeeds() {
        for (String line : LINES) {
            for (int z : new int[] {0, 1, 2, 9, 86, 4999, 9998, 9999}) {
                for (int n : new int[] {1, 2, 30, 59, 60}) {
                    LetterNeedles x = Due.laid(line + "mA;");
                    // from now on: not from REST
                    x.send(0);
                    x.turn(2);
                    int[] got = {x.day(z, n, 0), x.day(z, n, 1), x.day(z, n, 2)};
                    due.are(line + " day(" + z + ", " + n + ", what)", got, done(x, z, n));
                }
            }
        }
    }

    private static void dayOfEveryNumber() {
        for (int z = 0; z <= 9999; z++) {
            LetterNeedles x = new LetterNeedles();
            int[] got = {x.day(z, 60, 0), x.day(z, 60, 1), x.day(z, 60, 2)};
            due.are("new: day(" + z + ", 60, what)", got, done(x, z, 60));
        }
    }

    /** "the NEEDLES at that PLACE and at the next one (0 behind 4) are CHANGED". */
    private static void placeZeroBehindFour() {
        due.is("z = 86: the first DRAW modulo 8", draw(86, 0) % 8, 7);
        due.is("z = 86: the PLACE", draw(86, 0) / 64 % 5, 4);
        due.is("z = 86: then SIGN 24 is SENT", draw(86, 1) % 8 < 5 ? draw(86, 1) / 8 % 31 : -1, 24);
        due.is("a STIFF one at 4 has gone to 0: 24 is READ", Due.laid("n4,1;mA;").day(86, 2, 0), 1);
        due.is("a STIFF one at 0 has come to 4: NOTHING is READ", Due.laid("n0,1;mA;").day(86, 2, 0), 0);
        due.is("a STIFF one at 1 stays", Due.laid("n1,1;mA;").day(86, 2, 0), 1);
        due.is("a STIFF one at 3 stays", Due.laid("n3,1;mA;").day(86, 2, 0), 1);
    }

    /** "KEPT .. 2 at most"; "As KEPT last: how many are left; nothing is UNDONE then. NO." */
    private static void twoKept() {
        LetterNeedles x = Due.laid("mA;");
        due.is("back() of none", x.back(), LetterNeedles.NO);
        due.is("keep()", x.keep(), 1);
        x.send(20);
        due.is("keep() the second", x.keep(), 2);
        x.send(21);
        due.is("keep() the third", x.keep(), LetterNeedles.FULL);
        due.is("keep() the third again", x.keep(), LetterNeedles.FULL);
        due.is("count(5)", x.count(5), 2);
        due.is("back() to the second", x.back(), 1);
        due.is("reads()", x.reads(), 20);
        due.is("count(5)", x.count(5), 0);
        due.is("undo()", x.undo(), LetterNeedles.NO);
        due.is("keep() in its place", x.keep(), 2);
        due.is("keep() the third", x.keep(), LetterNeedles.FULL);
        due.is("back()", x.back(), 1);
        due.is("back() to the first", x.back(), 0);
        due.is("reads()", x.reads(), 30);
        x.send(22);
        due.is("back() of none", x.back(), LetterNeedles.NO);
        due.is("reads()", x.reads(), 22);
        due.is("count(5): what is refused leaves it", x.count(5), 1);
        due.is("undo()", x.undo(), 0);
        for (int i = 0; i < 5; i++) {
            due.is("keep() again", x.keep(), 1);
            due.is("back() again", x.back(), 0);
        }
    }

    /** "the line as it is (WIRES, NEEDLES, how they stand, what they GOT)": not what is SEEN, HEARD, written, LAID. */
    private static void keptIsTheLine() {
        LetterNeedles x = Whole.busy();
        String now = Due.all(x);
        x.keep();
        for (int p = 0; p < 5; p++) x.turn(p);
        x.change(0, 3);
        x.send(5);
        x.mend(0);
        x.see(0, 0);
        x.hear(5);
        x.write('x');
        due.is("back()", x.back(), 1);
        due.holds("the line is as it was", Due.all(x).equals(now));
        due.is("MESSAGES", x.count(0), 3);
        due.is("KEPT, the one ahead", x.count(6), 1);
        due.is("SEEN", x.count(7), 3);
        due.is("HEARD", x.count(8), 3);
        due.is("letters of THE TEXT", x.count(9), 51);
    }

    /** "How many: 0 MESSAGES, .. 9 letters of THE TEXT. BAD." from the fewest to the most. */
    private static void countsFromNoneToAll() {
        LetterNeedles x = Due.laid("mA;");
        x.wipe();
        for (int what = 0; what < 10; what++) due.is("fewest: count(" + what + ")", x.count(what), what == 0 ? 1 : 0);
        x = Due.laid(Whole.textOf200());
        for (int p = 0; p < 5; p++) {
            x.turn(p);
            if (p < 4) x.touch(p);
        }
        x.send(20);
        x.send(20);
        for (int p = 0; p < 5; p++) x.cut(p);
        for (int i = 0; i < 2; i++) x.keep();
        for (int i = 0; i < 8; i++) {
            x.see(0, 0);
            x.hear(0);
        }
        // of KINDS 1, 2, 3, 5, 0 all GOT the left twice
        int[] most = {6, 5, 5, 4, 5, 8, 2, 8, 8, 200};
        for (int what = 0; what < 10; what++) due.is("most: count(" + what + ")", x.count(what), most[what]);
        due.is("count(-1)", x.count(-1), LetterNeedles.BAD);
        due.is("count(10)", x.count(10), LetterNeedles.BAD);
    }
}
