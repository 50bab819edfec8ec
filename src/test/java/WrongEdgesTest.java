/** The sentences of part 4 that name an edge: WRONG things, SEEN, TRY, HEARD, FIT (promises 24 to 29). */
public final class WrongEdgesTest {
    private static final Due due = new Due();
    private static final int ALL = (1 << 25) - 1;
    /** By WRONG thing, then by SIGN: what is READ, by lines that are so. */
    private static final int[][] READ = readings();

    public static void main(String[] args) {
        everyThingByEverySign();
        thingsAtBothEnds();
        eightSeen();
        seenAgainAndAgainst();
        theLineIsNoMatter();
        triesByAllThatCanBeSeen();
        triesWhenFewAreLeft();
        eightHeard();
        fitBySoMany();
        fitOfSixMessages();
        forgetEmptyAndFull();
        due.end();
    }

    private static String lineOf(int wrong) {
        if (wrong < 5) return "c" + wrong + ";";
        if (wrong < 10) return "t" + (wrong - 5) + ";";
        if (wrong < 14) return "j" + (wrong - 10) + ";";
        if (wrong < 19) return "n" + (wrong - 14) + ",1;";
        return wrong < 24 ? "n" + (wrong - 19) + ",3;" : "";
    }

    private static int[][] readings() {
        int[][] all = new int[25][30];
        for (int wrong = 0; wrong < 25; wrong++) {
            for (int sign = 0; sign < 30; sign++) all[wrong][sign] = Due.laid(lineOf(wrong) + "mA;").send(sign);
        }
        return all;
    }

    private static int canBeBy(int... seen) {
        LetterNeedles x = new LetterNeedles();
        for (int i = 0; i < seen.length; i += 2) x.see(seen[i], seen[i + 1]);
        return x.canBe();
    }

    private static int bitsBy(int sign, int read) {
        int bits = 0;
        for (int wrong = 0; wrong < 25; wrong++) bits |= READ[wrong][sign] == read ? 1 << wrong : 0;
        return bits;
    }

    /** "a SIGN (0 to 29) .. was READ so (0 to 31)"; "WRONG things (bits) by which all that is SEEN is so". */
    private static void everyThingByEverySign() {
        for (int sign = 0; sign < 30; sign++) {
            for (int read = 0; read < 32; read++) {
                due.is("see(" + sign + ", " + read + ") canBe()", canBeBy(sign, read), bitsBy(sign, read));
            }
        }
        due.is("nothing SEEN", canBeBy(), ALL);
    }

    /** "0 to 4 .. CUT, 5 to 9 .. TURNED, 10 to 13 .. TOUCHES, 14 to 18 .. STIFF, 19 to 23 .. LED, 24 nothing is". */
    private static void thingsAtBothEnds() {
        due.is("0 or 14: 20 as NOTHING", canBeBy(20, 30), 1 | 1 << 14);
        due.is("4 or 18: 29 as NOTHING", canBeBy(29, 30), 1 << 4 | 1 << 18);
        due.is("5: 20 as 25", canBeBy(20, 25), 1 << 5);
        due.is("9: 29 as 24", canBeBy(29, 24), 1 << 9);
        due.is("10 or 20: 20 as a MUDDLE", canBeBy(20, 31), 1 << 10 | 1 << 20);
        due.is("10: H as NOTHING", canBeBy(6, 30), 1 << 10);
        due.is("13: P as NOTHING", canBeBy(13, 30), 1 << 13);
        due.is("13 alone: 29 as a MUDDLE", canBeBy(29, 31), 1 << 13);
        due.is("23 or 12 or 13: 28 as a MUDDLE", canBeBy(28, 31), 1 << 12 | 1 << 13 | 1 << 23);
        // a LED one at PLACE 0 is as a PLAIN one
        due.is("19 or 24: all figures as they are", canBeBy(20, 20, 21, 21, 22, 22, 23, 23, 24, 24), 1 << 19 | 1 << 24);
        for (int wrong = 0; wrong < 25; wrong++) {
            LetterNeedles x = new LetterNeedles();
            int[] signs = {0, 6, 9, 20, 21, 22, 23, 24};
            for (int sign : signs) x.see(sign, READ[wrong][sign]);
            due.is(wrong + " is among them", x.canBe() >> wrong & 1, 1);
        }
    }

    /** "SEEN (8 at most)"; "SEEN: how much. BAD; FULL." */
    private static void eightSeen() {
        LetterNeedles x = new LetterNeedles();
        due.is("at first: count(7)", x.count(7), 0);
        due.is("see(29, 31)", x.see(29, 31), 1);
        x.forget(0);
        for (int i = 1; i <= 8; i++) {
            due.is("see, numbered " + i, x.see(19 + i, 19 + i), i);
            due.is("count(7)", x.count(7), i);
        }
        // all figures to the right as they are: a whole line, or a LED one at PLACE 0
        due.is("by eight: canBe()", x.canBe(), 1 << 19 | 1 << 24);
        due.is("the ninth", x.see(28, 31), LetterNeedles.FULL);
        due.is("the tenth", x.see(0, 0), LetterNeedles.FULL);
        due.is("the ninth does not count: canBe()", x.canBe(), 1 << 19 | 1 << 24);
        due.is("count(7)", x.count(7), 8);
        x = new LetterNeedles();
        for (int i = 0; i < 7; i++) x.see(20, 20);
        due.is("the eighth counts", x.see(20, 25), 8);
        due.is("the eighth is against the others", x.canBe(), 0);
    }

    private static void seenAgainAndAgainst() {
        due.is("the same again", canBeBy(20, 30, 20, 30), 1 | 1 << 14);
        due.is("one against the other", canBeBy(20, 30, 20, 20), 0);
        due.is("what can not be", canBeBy(20, 24), 0);
        LetterNeedles x = new LetterNeedles();
        x.see(20, 30);
        due.is("the same again is SEEN once more", x.see(20, 30), 2);
    }

    private static void theLineIsNoMatter() {
        LetterNeedles x = Whole.busy();
        x.forget(0);
        due.is("busy: canBe()", x.canBe(), ALL);
        for (int i = 0; i < 8; i++) x.see(20 + i, READ[6][20 + i]);
        due.is("busy: canBe() by a TURNED WIRE 1", x.canBe(), 1 << 6);
        x.send(0);
        x.mend(1);
        due.is("busy, and more: canBe()", x.canBe(), 1 << 6);
    }

    private static int greatestPart(int possible, int sign) {
        int[] parts = new int[32];
        int greatest = 0;
        for (int wrong = 0; wrong < 25; wrong++) {
            if ((possible >> wrong & 1) == 1) greatest = Math.max(greatest, ++parts[READ[wrong][sign]]);
        }
        return greatest;
    }

    private static int lowestBest(int possible) {
        int best = 0;
        for (int sign = 1; sign < 30; sign++) {
            if (greatestPart(possible, sign) < greatestPart(possible, best)) best = sign;
        }
        return best;
    }

    private static void triesAre(LetterNeedles x, String when) {
        int possible = x.canBe();
        boolean isNone = Integer.bitCount(possible) <= 1;
        due.is(when + " tries(0)", x.tries(0), isNone ? LetterNeedles.NONE : lowestBest(possible));
        due.is(when + " tries(1)", x.tries(1), isNone ? LetterNeedles.NONE : greatestPart(possible, lowestBest(possible)));
    }

    /** "the greatest part of them that is READ alike is least; the lowest of several; none, if one is left at most". */
    private static void triesByAllThatCanBeSeen() {
        triesAre(new LetterNeedles(), "nothing SEEN:");
        for (int sign = 0; sign < 30; sign++) {
            for (int read = 0; read < 32; read++) {
                LetterNeedles x = new LetterNeedles();
                x.see(sign, read);
                triesAre(x, "see(" + sign + ", " + read + ")");
            }
        }
    }

    private static void triesWhenFewAreLeft() {
        LetterNeedles x = new LetterNeedles();
        x.see(20, 30);
        due.is("two are left", Integer.bitCount(x.canBe()), 2);
        due.is("two, that no SIGN tells apart: tries(0)", x.tries(0), 0);
        due.is("two, that no SIGN tells apart: tries(1)", x.tries(1), 2);
        x.forget(0);
        x.see(20, 31);
        due.is("two, that D tells apart: tries(0)", x.tries(0), 2);
        due.is("two, that D tells apart: tries(1)", x.tries(1), 1);
        x.see(2, 2);
        due.is("one is left: canBe()", x.canBe(), 1 << 20);
        due.is("one is left: tries(0)", x.tries(0), LetterNeedles.NONE);
        due.is("one is left: tries(1)", x.tries(1), LetterNeedles.NONE);
        x.see(2, 31);
        due.is("none is left: canBe()", x.canBe(), 0);
        due.is("none is left: tries(0)", x.tries(0), LetterNeedles.NONE);
        due.is("none is left: tries(1)", x.tries(1), LetterNeedles.NONE);
        x.forget(0);
        due.is("all are left: tries(0), F", x.tries(0), 4);
        due.is("all are left: tries(1)", x.tries(1), 13);
    }

    /** "HEARD (8 at most) are letters (SIGNS 0 to 19) or MUDDLES"; "how many. BAD; FULL." */
    private static void eightHeard() {
        LetterNeedles x = Due.laid("mAYAYAYAY;mAYAYAYA;");
        due.is("at first: count(8)", x.count(8), 0);
        int[] heard = {0, 19, 31, 19, 0, 31, 0, 19};
        for (int i = 0; i < 8; i++) {
            due.is("hear, numbered " + i, x.hear(heard[i]), i + 1);
            due.is("count(8)", x.count(8), i + 1);
            due.is("fits() by " + (i + 1), x.fits(), i == 7 ? 1 : i == 6 ? 2 : 0);
        }
        due.is("the ninth", x.hear(0), LetterNeedles.FULL);
        due.is("the ninth, a MUDDLE", x.hear(31), LetterNeedles.FULL);
        due.is("the ninth does not count: fits()", x.fits(), 1);
        due.is("count(8)", x.count(8), 8);
        x = Due.laid("mAYAYAYAY;");
        for (int i = 0; i < 7; i++) x.hear(31);
        due.is("the eighth counts", x.hear(0), 8);
        due.is("the eighth is another one", x.fits(), 0);
    }

    /** "FIT are MESSAGES (bits) SPELT by as many SIGNS, each of them HEARD at its place, or a MUDDLE there." */
    private static void fitBySoMany() {
        String text = "";
        for (int many = 1; many <= 6; many++) text += "m" + "BBBBBB".substring(0, many) + ";";
        LetterNeedles x = Due.laid(text);
        due.is("none HEARD: fits()", x.fits(), 0);
        for (int many = 1; many <= 8; many++) {
            x.hear(many % 2 == 0 ? 31 : 1);
            due.is(many + " HEARD: fits()", x.fits(), many <= 6 ? 1 << many - 1 : 0);
        }
        for (int place = 0; place < 8; place++) {
            LetterNeedles y = Due.laid("mABDEFGHI;");
            LetterNeedles z = Due.laid("mABDEFGHI;");
            for (int k = 0; k < 8; k++) {
                y.hear(k == place ? 31 : k);
                z.hear(k == place ? 19 : k);
            }
            due.is("a MUDDLE at " + place, y.fits(), 1);
            due.is("another one at " + place, z.fits(), 0);
        }
    }

    private static void fitOfSixMessages() {
        LetterNeedles x = Due.laid("mCAX;mKAS;mQAZ;mKAZ;mCAS;mQAX;");
        x.hear(8);
        x.hear(0);
        x.hear(15);
        due.is("six SPELT alike", x.fits(), 63);
        x = Due.laid("mA;mB;mD;mE;mF;mY;");
        x.hear(31);
        due.is("a MUDDLE", x.fits(), 63);
        x.forget(1);
        x.hear(19);
        due.is("the last one", x.fits(), 32);
        x.forget(1);
        x.hear(0);
        due.is("the first one", x.fits(), 1);
        due.is("a figure is not HEARD", x.hear(20), LetterNeedles.BAD);
    }

    /** "Nothing is SEEN (what = 0), HEARD (1) any more: how much was." */
    private static void forgetEmptyAndFull() {
        LetterNeedles x = new LetterNeedles();
        due.is("nothing: forget(0)", x.forget(0), 0);
        due.is("nothing: forget(1)", x.forget(1), 0);
        for (int i = 0; i < 8; i++) {
            x.see(20, 25);
            x.hear(31);
        }
        due.is("full: forget(0)", x.forget(0), 8);
        due.is("what is HEARD stays", x.count(8), 8);
        due.is("canBe()", x.canBe(), ALL);
        due.is("again: forget(0)", x.forget(0), 0);
        for (int i = 1; i <= 8; i++) due.is("see again", x.see(20, 30), i);
        due.is("see the ninth again", x.see(20, 30), LetterNeedles.FULL);
        due.is("full: forget(1)", x.forget(1), 8);
        due.is("what is SEEN stays", x.count(7), 8);
        due.is("canBe()", x.canBe(), 1 | 1 << 14);
        due.is("fits()", x.fits(), 0);
        due.is("again: forget(1)", x.forget(1), 0);
        for (int i = 1; i <= 8; i++) due.is("hear again", x.hear(31), i);
        due.is("hear the ninth again", x.hear(31), LetterNeedles.FULL);
    }
}
