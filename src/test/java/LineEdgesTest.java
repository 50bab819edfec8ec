import java.util.HashMap;
import java.util.Map;

/** The sentences of part 2 that name an edge: SIGNS, BEATS, KINDS, DEEDS (promises 9 to 16). */
public final class LineEdgesTest {
    private static final Due due = new Due();
    /** How the five stand by each SIGN from 0 on: . upright, R to the right, L to the left. */
    private static final String[] SIGNS = {
        "R...L", "R..L.", ".R..L", "R.L..", ".R.L.", "..R.L", "RL...", ".RL..", "..RL.", "...RL",
        "LR...", ".LR..", "..LR.", "...LR", "L.R..", ".L.R.", "..L.R", "L..R.", ".L..R", "L...R",
        "R....", ".R...", "..R..", "...R.", "....R", "L....", ".L...", "..L..", "...L.", "....L", ".....",
    };

    public static void main(String[] args) {
        everyWayFiveCanStand();
        restAtFirst();
        turnedBearsTheOtherWay();
        cutBearsAndCarriesNothing();
        moreFewerOrAsMany();
        noWireTouchesRound();
        byItselfBesideOthers();
        stiffFromRest();
        lazyForOneBeat();
        ledAtBothEnds();
        contraryAtTheEdges();
        stuckWithNothing();
        deedsFromNoneToAll();
        mendedAtBothEnds();
        mendedEachOnce();
        everyTwoPlaces();
        theLastEight();
        everyDeedIsOne();
        due.end();
    }

    /** How the five stand (what = 1) or what they GOT (2). */
    private static String five(LetterNeedles x, int what) {
        StringBuilder b = new StringBuilder();
        for (int p = 0; p < 5; p++) b.append(".RL".charAt(x.needle(p, what)));
        return b.toString();
    }

    private static void stands(String when, LetterNeedles x, String want) {
        due.holds(when + ": " + five(x, 1) + ", due is " + want, five(x, 1).equals(want));
    }

    /** What is READ and how they stand behind each of these SIGNS, one behind the other. */
    private static void sends(String text, Object... signsAndStands) {
        LetterNeedles x = Due.laid(text);
        for (int i = 0; i < signsAndStands.length; i += 2) {
            int read = x.send((Integer) signsAndStands[i]);
            String when = text + " send numbered " + i / 2;
            stands(when, x, (String) signsAndStands[i + 1]);
            due.is(when + " is READ", read, x.reads());
        }
    }

    /** "What NEEDLES stand as is READ: the SIGN that is so; a MUDDLE, if none is." */
    private static void everyWayFiveCanStand() {
        Map<String, Integer> told = new HashMap<>();
        for (int sign = 0; sign < 31; sign++) told.put(SIGNS[sign], sign);
        due.is("SIGNS that differ", told.size(), 31);
        for (int number = 0; number < 243; number++) {
            StringBuilder b = new StringBuilder();
            LetterNeedles x = Due.laid("n0,5;n1,5;n2,5;n3,5;n4,5;mA;");
            for (int p = 0, rest = number; p < 5; p++, rest /= 3) {
                b.append(".RL".charAt(rest % 3));
                if (rest % 3 > 0) x.send(15 + 5 * (rest % 3) + p);
            }
            String all = b.toString();
            stands("made", x, all);
            due.is(all + " is READ", x.reads(), told.getOrDefault(all, 31));
            due.is(all + ": count(4)", x.count(4), (int) all.chars().filter(c -> c != '.').count());
        }
        LetterNeedles x = Due.laid("mA;");
        for (int sign = 0; sign < 31; sign++) {
            due.is("whole: send(" + sign + ")", x.send(sign), sign);
            stands("whole: send(" + sign + ")", x, SIGNS[sign]);
            due.holds("whole: what they GOT by " + sign, five(x, 2).equals(SIGNS[sign]));
        }
        due.is("send(31), a MUDDLE", x.send(31), LetterNeedles.BAD);
    }

    /** "At REST all NEEDLES are upright, and GOT nothing in the BEAT ahead (so it is at first)." */
    private static void restAtFirst() {
        for (int kind = 0; kind < 6; kind++) {
            String needles = "";
            for (int p = 0; p < 5; p++) needles += "n" + p + "," + kind + ";";
            LetterNeedles x = Due.laid(needles + "mA;");
            due.is(needles + " reads() at first", x.reads(), 30);
            due.is(needles + " NOTHING at first", x.send(30), 30);
            due.is(needles + " NOTHING again", x.send(30), 30);
        }
        LetterNeedles x = new LetterNeedles();
        due.is("new: reads()", x.reads(), 30);
        stands("new", x, ".....");
        due.holds("new: nothing GOT", five(x, 2).equals("....."));
    }

    /** "A TURNED WIRE bears the other way round what it is given": nothing stays nothing. */
    private static void turnedBearsTheOtherWay() {
        String all = "t0;t1;t2;t3;t4;mA;";
        LetterNeedles x = Due.laid(all);
        for (int sign = 0; sign < 31; sign++) {
            x.send(sign);
            stands(all + " send(" + sign + ")", x, SIGNS[sign].replace('R', 'x').replace('L', 'R').replace('x', 'L'));
        }
        for (int p = 0; p < 5; p++) {
            x = Due.laid("t" + p + ";mA;");
            due.is("t" + p + "; to the right", x.send(20 + p), 25 + p);
            due.is("t" + p + "; to the left", x.send(25 + p), 20 + p);
            due.is("t" + p + "; nothing", x.send(30), 30);
        }
    }

    /** "a CUT one nothing"; "A CUT one carries nothing." */
    private static void cutBearsAndCarriesNothing() {
        LetterNeedles x = Due.laid("c0;c1;c2;c3;c4;t0;j0;j1;j2;j3;mA;");
        for (int sign = 0; sign < 31; sign++) due.is("all CUT: send(" + sign + ")", x.send(sign), 30);
        for (int p = 0; p < 5; p++) {
            x = Due.laid("c" + p + ";t" + p + ";mA;");
            for (int q = 0; q < 5; q++) due.is("c" + p + "; send(" + (20 + q) + ")", x.send(20 + q), q == p ? 30 : 20 + q);
        }
        // those together with it carry on through it; it does not bear for them, nor carry what they bear
        sends("j0;j1;c1;mA;", 20, "R.R..", 21, ".....", 22, "R.R..", 3, ".....", 11, "R.R..");
        sends("j0;c0;mA;", 20, ".....", 21, ".R...", 6, ".L...");
        sends("j3;c4;mA;", 24, ".....", 23, "...R.", 9, "...R.");
    }

    /** "to the right, if more of these together bear that than to the left; to the left, if fewer do; else nothing". */
    private static void moreFewerOrAsMany() {
        for (int p = 0; p < 4; p++) {
            String text = "j" + p + ";mA;";
            String none = ".....";
            String right = none.substring(0, p) + "RR" + none.substring(p + 2);
            sends(text, 20 + p, right, 25 + p, right.replace('R', 'L'), 21 + p, right, 26 + p, right.replace('R', 'L'));
            // H, I, K, L and M, N, O, P: one to the right and the next one to the left, or the other way round
            sends(text, 6 + p, none, 10 + p, none, 30, none);
        }
        String all = "j0;j1;j2;j3;mA;";
        LetterNeedles x = Due.laid(all);
        for (int letter = 0; letter < 20; letter++) due.is(all + " send(" + letter + ")", x.send(letter), 30);
        sends(all, 20, "RRRRR", 24, "RRRRR", 25, "LLLLL", 29, "LLLLL", 30, ".....");
        // with WIRE 4 TURNED both needles of A bear to the right, both of Y to the left; of B one each
        sends("j0;j1;j2;j3;t4;mA;", 0, "RRRRR", 19, "LLLLL", 1, ".....", 24, "LLLLL");
        // with WIRE 4 CUT only one of A and Y is left
        sends("j0;j1;j2;j3;c4;mA;", 0, "RRRR.", 19, "LLLL.", 1, ".....");
        sends("j1;j2;mA;", 4, ".....", 7, ".....", 3, "RLLL.", 2, ".RRRL", 5, ".RRRL");
    }

    /** WIRE 4 TOUCHES none, so WIRE 0 is not behind it. */
    private static void noWireTouchesRound() {
        sends("j3;mA;", 24, "...RR", 20, "R....", 0, "R..LL");
        sends("j0;mA;", 20, "RR...", 24, "....R", 0, "RR..L");
        sends("j0;j3;mA;", 0, "RR.LL", 19, "LL.RR");
    }

    /** "(A WIRE by itself carries what it bears.)" */
    private static void byItselfBesideOthers() {
        sends("j0;j2;mA;", 24, "....R", 29, "....L", 0, "RR..L", 9, "..RRL");
        sends("j1;mA;", 20, "R....", 23, "...R.", 8, ".RRL.", 6, "RLL..");
        sends("j0;j1;t3;mA;", 23, "...L.", 28, "...R.");
    }

    /** "A STIFF one stands as it GETS, if it GOT the same in the BEAT ahead, else upright." */
    private static void stiffFromRest() {
        for (int p = 0; p < 5; p++) {
            LetterNeedles x = Due.laid("n" + p + ",1;mA;");
            due.is("STIFF " + p + ": first", x.send(20 + p), 30);
            due.is("STIFF " + p + ": the same", x.send(20 + p), 20 + p);
            due.is("STIFF " + p + ": the same again", x.send(20 + p), 20 + p);
            due.is("STIFF " + p + ": the other way", x.send(25 + p), 30);
            due.is("STIFF " + p + ": that again", x.send(25 + p), 25 + p);
            due.is("STIFF " + p + ": nothing", x.send(30), 30);
            due.is("STIFF " + p + ": behind nothing", x.send(25 + p), 30);
        }
    }

    /** "A LAZY one, if it GETS nothing, stands as it GOT in the BEAT ahead, else as it GETS." */
    private static void lazyForOneBeat() {
        for (int p = 0; p < 5; p++) {
            LetterNeedles x = Due.laid("n" + p + ",2;mA;");
            due.is("LAZY " + p + ": first", x.send(25 + p), 25 + p);
            due.is("LAZY " + p + ": nothing", x.send(30), 25 + p);
            due.is("LAZY " + p + ": nothing again", x.send(30), 30);
            due.is("LAZY " + p + ": right", x.send(20 + p), 20 + p);
            due.is("LAZY " + p + ": left at once", x.send(25 + p), 25 + p);
        }
    }

    /** "A LED one, if it GETS nothing, stands as the one at the PLACE to the left of it GETS (at PLACE 0 upright)". */
    private static void ledAtBothEnds() {
        LetterNeedles x = Due.laid("n0,3;mA;");
        for (int sign = 0; sign < 31; sign++) due.is("LED 0: send(" + sign + ")", x.send(sign), sign);
        sends("n4,3;mA;", 23, "...RR", 28, "...LL", 20, "R....", 9, "...RL", 24, "....R");
        // each but the first one follows the one ahead, none the next but one
        String all = "n0,3;n1,3;n2,3;n3,3;n4,3;mA;";
        sends(all, 20, "RR...", 21, ".RR..", 22, "..RR.", 23, "...RR", 24, "....R", 25, "LL...", 30, ".....", 0, "RR..L", 6, "RLL..");
        // as that one GETS, not as it stands: a STIFF, a STUCK, a LAZY, a CUT one ahead
        sends("n0,1;n1,3;mA;", 20, ".R...", 20, "RR...", 30, ".....");
        sends("n0,5;n1,3;mA;", 20, "RR...", 30, "R....");
        sends("n0,2;n1,3;mA;", 20, "RR...", 30, "R....");
        sends("c0;n1,3;mA;", 20, ".....", 25, ".....");
        sends("t0;n1,3;mA;", 20, "LL...");
        sends("c1;n1,3;mA;", 21, ".....", 6, "RR...");
    }

    /** "A CONTRARY one stands the other way round than a STIFF one would." */
    private static void contraryAtTheEdges() {
        for (int p = 0; p < 5; p++) {
            LetterNeedles x = Due.laid("n" + p + ",4;mA;");
            due.is("CONTRARY " + p + ": first", x.send(20 + p), 30);
            due.is("CONTRARY " + p + ": the same", x.send(20 + p), 25 + p);
            due.is("CONTRARY " + p + ": the other way", x.send(25 + p), 30);
            due.is("CONTRARY " + p + ": that again", x.send(25 + p), 20 + p);
            due.is("CONTRARY " + p + ": nothing", x.send(30), 30);
            due.is("CONTRARY " + p + ": nothing again", x.send(30), 30);
        }
    }

    /** "A STUCK one, if it GETS nothing, stays as it stands, else it stands as it GETS." */
    private static void stuckWithNothing() {
        for (int p = 0; p < 5; p++) {
            LetterNeedles x = Due.laid("n" + p + ",5;mA;");
            due.is("STUCK " + p + ": nothing at first", x.send(30), 30);
            due.is("STUCK " + p + ": right", x.send(20 + p), 20 + p);
            for (int i = 0; i < 12; i++) due.is("STUCK " + p + ": nothing", x.send(30), 20 + p);
            due.is("STUCK " + p + ": left", x.send(25 + p), 25 + p);
            x.cut(p);
            due.is("STUCK " + p + ": CUT", x.send(20 + p), 25 + p);
        }
    }

    /** "CUT: how many are"; "TURNED, or not any more: how many are"; "It TOUCHES the next one: how many do". */
    private static void deedsFromNoneToAll() {
        LetterNeedles x = Due.laid("mA;");
        for (int p = 4; p >= 0; p--) {
            due.is("cut(" + p + ")", x.cut(p), 5 - p);
            for (int q = 0; q < 5; q++) due.is("then wire(" + q + ", 0)", x.wire(q, 0), q >= p ? 1 : 0);
            due.is("turn(" + p + ")", x.turn(p), 5 - p);
            for (int q = 0; q < 5; q++) due.is("then wire(" + q + ", 1)", x.wire(q, 1), q >= p ? 1 : 0);
            if (p < 4) due.is("touch(" + p + ")", x.touch(p), 4 - p);
            for (int q = 0; q < 5; q++) due.is("then wire(" + q + ", 2)", x.wire(q, 2), q >= p && q < 4 ? 1 : 0);
        }
        due.is("all CUT", x.count(1), 5);
        due.is("all TURNED", x.count(2), 5);
        due.is("all TOUCH", x.count(3), 4);
        due.is("touch(4)", x.touch(4), LetterNeedles.BAD);
        for (int p = 0; p < 5; p++) {
            due.is("turn(" + p + ") back", x.turn(p), 4 - p);
            due.is("then wire(" + p + ", 1)", x.wire(p, 1), 0);
        }
        due.is("none TURNED", x.count(2), 0);
        due.is("turn(4) once more", x.turn(4), 1);
        due.is("turn(4) back", x.turn(4), 0);
    }

    /** "MENDED, if it is CUT, TURNED, TOUCHES the next one, or the one ahead TOUCHES it". */
    private static void mendedAtBothEnds() {
        LetterNeedles x = Due.laid("j0;j1;j2;j3;mA;");
        due.is("mend(0): no one is ahead", x.mend(0), 3);
        due.is("wire(0, 2)", x.wire(0, 2), 0);
        due.is("wire(1, 2)", x.wire(1, 2), 1);
        due.is("mend(0) again", x.mend(0), LetterNeedles.NO);
        due.is("mend(4): it TOUCHES none", x.mend(4), 2);
        due.is("wire(3, 2)", x.wire(3, 2), 0);
        due.is("wire(2, 2)", x.wire(2, 2), 1);
        due.is("mend(4) again", x.mend(4), LetterNeedles.NO);
        due.is("mend(2): on both sides", x.mend(2), 0);
        for (int p = 0; p < 5; p++) due.is("mend(" + p + ") of a whole line", x.mend(p), LetterNeedles.NO);
        x = Due.laid("c0;t0;c4;t4;mA;");
        due.is("mend(0)", x.mend(0), 1);
        due.is("wire(0, 0)", x.wire(0, 0), 0);
        due.is("wire(0, 1)", x.wire(0, 1), 0);
        due.is("wire(4, 0)", x.wire(4, 0), 1);
        due.is("mend(4)", x.mend(4), 0);
    }

    /** "how many WIRES are CUT, TURNED, or TOUCH the next one (each once)". */
    private static void mendedEachOnce() {
        LetterNeedles x = Due.laid("c0;c1;c2;c3;c4;t0;t1;t2;t3;t4;j0;j1;j2;j3;mA;");
        for (int p = 0; p < 5; p++) due.is("mend(" + p + ")", x.mend(p), 4 - p);
        x = Due.laid("c0;t1;j2;mA;");
        due.is("mend(3), which only is TOUCHED", x.mend(3), 2);
        due.is("mend(1)", x.mend(1), 1);
        due.is("mend(0)", x.mend(0), 0);
        x = Due.laid("j2;j3;mA;");
        due.is("WIRE 3 is TOUCHED and TOUCHES: one is left", x.mend(4), 1);
    }

    /** "CHANGED for one another: the KIND of the one that is at PLACE p then. BAD: alike, too." */
    private static void everyTwoPlaces() {
        int[] kinds = {4, 1, 2, 5, 3};
        for (int p = 0; p < 5; p++) {
            for (int q = 0; q < 5; q++) {
                LetterNeedles x = Due.laid("n0,4;n1,1;n2,2;n3,5;n4,3;mA;");
                due.is("change(" + p + ", " + q + ")", x.change(p, q), p == q ? LetterNeedles.BAD : kinds[q]);
                for (int i = 0; i < 5; i++) {
                    int from = i == p ? q : i == q ? p : i;
                    due.is("then needle(" + i + ", 0)", x.needle(i, 0), kinds[from]);
                }
                due.is("count(5)", x.count(5), p == q ? 0 : 1);
            }
        }
        LetterNeedles x = Due.laid("n0,5;n4,1;mA;");
        x.send(0);
        x.change(4, 0);
        stands("CHANGED with as what they stand", x, "....R");
        due.holds("CHANGED with what they GOT: " + five(x, 2), five(x, 2).equals("L...R"));
        due.is("the STIFF one had GOT the same, the STUCK one stays: Y", x.send(25), 19);
    }

    /** "UNDONE are the latest of these (the last 8 can be)." */
    private static void theLastEight() {
        for (int deeds = 0; deeds <= 30; deeds++) {
            LetterNeedles x = Due.laid("mA;");
            for (int i = 1; i <= deeds; i++) x.send(i % 30);
            int can = Math.min(deeds, 8);
            due.is("behind " + deeds + ": count(5)", x.count(5), can);
            for (int back = 1; back <= can; back++) {
                due.is("behind " + deeds + ": undo() numbered " + back, x.undo(), can - back);
                due.is("as it was", x.reads(), deeds == back ? 30 : (deeds - back) % 30);
            }
            due.is("behind " + deeds + ": undo() of all", x.undo(), LetterNeedles.NO);
            due.is("as it was", x.reads(), deeds <= 8 ? 30 : (deeds - 8) % 30);
        }
        LetterNeedles x = Due.laid("mA;");
        for (int i = 0; i < 8; i++) x.send(i);
        for (int i = 0; i < 3; i++) x.undo();
        due.is("UNDOING is no DEED", x.count(5), 5);
        for (int i = 10; i < 15; i++) x.send(i);
        due.is("five and five are eight", x.count(5), 8);
        int[] reads = {13, 12, 11, 10, 4, 3, 2, 1};
        for (int i = 0; i < 8; i++) {
            due.is("undo()", x.undo(), 7 - i);
            due.is("as it was", x.reads(), reads[i]);
        }
        due.is("undo() of all", x.undo(), LetterNeedles.NO);
    }

    /** Each of the six DEEDS is UNDONE by one undo(), and brings all back. */
    private static void everyDeedIsOne() {
        LetterNeedles x = Due.laid("n0,5;n1,1;n2,2;n4,4;c3;t4;j1;mA;");
        String[] was = new String[7];
        for (int deed = 0; deed < 7; deed++) {
            was[deed] = Due.all(x);
            due.is("ahead of deed " + deed + ": count(5)", x.count(5), deed);
            switch (deed) {
                case 0: x.send(6); break;
                case 1: x.cut(0); break;
                case 2: x.turn(4); break;
                case 3: x.touch(3); break;
                case 4: x.mend(3); break;
                case 5: x.change(1, 0); break;
                default: x.turn(2); break;
            }
        }
        for (int deed = 6; deed >= 0; deed--) {
            due.is("undo() of deed " + deed, x.undo(), deed);
            due.holds("as it was ahead of deed " + deed, Due.all(x).equals(was[deed]));
        }
    }
}
