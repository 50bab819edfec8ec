/** The sentences of part 3 that name an edge: SAID, PACE, CLEAR, LIKE, MENDING, CHANGING, ORDER (promises 17 to 23). */
public final class SayingEdgesTest {
    private static final Due due = new Due();
    private static final String ALL_CUT = "c0;c1;c2;c3;c4;";
    private static final String ALL_TOUCH = "j0;j1;j2;j3;";
    /** Lines with one of each KIND, with every fault, with none. */
    private static final String[] LINES = {
        "", "n0,1;n1,2;n2,3;n3,4;n4,5;", "n0,5;n1,4;n2,1;n3,2;n4,3;t1;j3;", "n0,2;n1,2;n2,2;n3,2;n4,2;", "n0,5;n3,5;",
        "n1,1;n3,2;j3;", "c0;t1;j2;", ALL_TOUCH, ALL_CUT, "n0,1;n1,1;n2,1;n3,1;n4,1;",
    };

    public static void main(String[] args) {
        saidByEveryPace();
        saidAtBothEnds();
        saidFromRest();
        paceOfTheLeastSum();
        clearOfNoneAndAll();
        clearIsAsSent();
        likeOfNoneAndAll();
        mendingOfNoneAndAll();
        mendingAsFarAsTheseCanBe();
        changingMoreThanAsTheyAre();
        changingTheFirstOfSeveral();
        orderOfNoneAndAll();
        orderTheFirstOfSeveral();
        due.end();
    }

    /** What is READ for the SIGNS of a MESSAGE, by sending them on a line of its own. */
    private static int[] sent(String text, int[] signs, int r, int g) {
        LetterNeedles x = Due.laid(text);
        int[] reads = new int[signs.length];
        for (int i = 0; i < signs.length; i++) {
            for (int beat = 0; beat < r; beat++) reads[i] = x.send(signs[i]);
            for (int beat = 0; beat < g; beat++) x.send(30);
        }
        return reads;
    }

    private static int[] signsOf(LetterNeedles x, int message) {
        int[] signs = new int[x.spelt(message, -1)];
        for (int k = 0; k < signs.length; k++) signs[k] = x.spelt(message, k);
        return signs;
    }

    private static int right(int[] reads, int[] signs) {
        int many = 0;
        for (int i = 0; i < signs.length; i++) many += reads[i] == signs[i] ? 1 : 0;
        return many;
    }

    /** "SAID by r (1 to 3) and g (0 to 3) from REST". */
    private static void saidByEveryPace() {
        for (String line : LINES) {
            String text = line + "mAADDHYHY;mQUAKER;mZ;";
            for (int message = 0; message < 3; message++) {
                for (int r = 1; r <= 3; r++) {
                    for (int g = 0; g <= 3; g++) {
                        LetterNeedles x = Due.laid(text);
                        int[] signs = signsOf(x, message);
                        int[] reads = sent(text, signs, r, g);
                        String call = text + " said(" + message + ", " + r + ", " + g + ", ";
                        due.is(call + "-1)", x.said(message, r, g, -1), right(reads, signs));
                        for (int k = 0; k <= 7; k++) {
                            due.is(call + k + ")", x.said(message, r, g, k), k < reads.length ? reads[k] : LetterNeedles.NONE);
                        }
                    }
                }
            }
        }
    }

    /** "how many are RIGHT (k = -1), what is READ for the k-th; NONE: not so many. BAD: k below -1, above 7, too." */
    private static void saidAtBothEnds() {
        String letters = "";
        for (int many = 1; many <= 8; many++) {
            letters += "ABDEFGHI".charAt(many - 1);
            LetterNeedles x = Due.laid("m" + letters + ";");
            due.is(letters + " k = -2", x.said(0, 1, 0, -2), LetterNeedles.BAD);
            due.is(letters + " k = -1", x.said(0, 1, 0, -1), many);
            for (int k = 0; k <= 7; k++) due.is(letters + " k = " + k, x.said(0, 1, 0, k), k < many ? k : LetterNeedles.NONE);
            due.is(letters + " k = 8", x.said(0, 1, 0, 8), LetterNeedles.BAD);
        }
        LetterNeedles x = Due.laid(ALL_CUT + "mABDEFGHI;");
        due.is("all CUT: none is RIGHT", x.said(0, 1, 0, -1), 0);
        for (int k = 0; k <= 7; k++) due.is("all CUT: k = " + k, x.said(0, 3, 3, k), 30);
        x = Due.laid("mA;mB;mD;mE;mF;mG;");
        due.is("the last MESSAGE", x.said(5, 1, 0, 0), 5);
        due.is("behind the last MESSAGE", x.said(6, 1, 0, 0), LetterNeedles.BAD);
    }

    private static void saidFromRest() {
        LetterNeedles x = Due.laid("n0,1;n4,5;mA;");
        x.send(20);
        x.send(24);
        due.is("the STIFF one GOT nothing, the STUCK one is upright", x.said(0, 1, 0, 0), 29);
        due.is("by 2", x.said(0, 2, 0, 0), 0);
        due.is("clear(1) from REST: F uses neither", x.clear(1) >> Due.sign('F') & 1, 1);
        due.is("like(29) from REST", x.like(29), 0);
        due.is("as it was", x.reads(), 24);
    }

    private static void paceIs(String text, int r, int g) {
        LetterNeedles x = Due.laid(text);
        due.is(text + " pace(0, 0)", x.pace(0, 0), r);
        due.is(text + " pace(0, 1)", x.pace(0, 1), g);
        if (r < 0) return;
        int[] signs = signsOf(x, 0);
        due.is(text + " all are RIGHT so", right(sent(text, signs, r, g), signs), signs.length);
    }

    /** "those of the least sum, then of the least r"; "NONE". */
    private static void paceOfTheLeastSum() {
        paceIs("mABDEFGHI;", 1, 0);
        // by 1 and 1 as well as by 2 and 0: the least r
        paceIs("n0,2;mAD;", 1, 1);
        paceIs("n0,1;mA;", 2, 0);
        paceIs("n0,1;n4,2;mAB;", 2, 0);
        paceIs("n0,4;t0;n4,4;t4;mAY;", 2, 0);
        paceIs("n0,5;mAD;", LetterNeedles.NONE, LetterNeedles.NONE);
        paceIs(ALL_CUT + "mZ;", LetterNeedles.NONE, LetterNeedles.NONE);
        // all but the last one are RIGHT
        paceIs("c0;mDFGIKLNA;", LetterNeedles.NONE, LetterNeedles.NONE);
        paceIs("c0;mDFGIKLNO;", 1, 0);
        // all but the first one
        paceIs("c0;mADFGIKLN;", LetterNeedles.NONE, LetterNeedles.NONE);
    }

    /** "CLEAR by r: SIGNS (0 to 29)": NOTHING is none of these. */
    private static void clearOfNoneAndAll() {
        for (int r = 1; r <= 3; r++) {
            due.is("whole: clear(" + r + ")", Due.laid("mA;").clear(r), (1 << 30) - 1);
            due.is("all CUT: clear(" + r + ")", Due.laid(ALL_CUT + "mA;").clear(r), 0);
            due.is("all TOUCH: clear(" + r + ")", Due.laid(ALL_TOUCH + "mA;").clear(r), 0);
        }
        due.is("WIRE 4 alone: clear(1)", Due.laid("c0;c1;c2;c3;mA;").clear(1), 1 << 24 | 1 << 29);
        due.is("WIRE 0 alone: clear(1)", Due.laid("c1;c2;c3;c4;mA;").clear(1), 1 << 20 | 1 << 25);
        due.is("WIRES 0 and 4 alone: clear(1)", Due.laid("c1;c2;c3;mA;").clear(1), 1 | 1 << 19 | 1 << 20 | 1 << 24 | 1 << 25 | 1 << 29);
    }

    private static void clearIsAsSent() {
        for (String line : LINES) {
            for (int r = 1; r <= 3; r++) {
                int bits = 0;
                for (int sign = 0; sign < 30; sign++) {
                    if (sent(line + "mA;", new int[] {sign}, r, 0)[0] == sign) bits |= 1 << sign;
                }
                due.is(line + " clear(" + r + ")", Due.laid(line + "mA;").clear(r), bits);
            }
        }
    }

    /** "LIKE of a SIGN (0 to 30): the least SIGN that is READ alike". */
    private static void likeOfNoneAndAll() {
        LetterNeedles whole = Due.laid("mA;");
        LetterNeedles allCut = Due.laid(ALL_CUT + "mA;");
        for (int sign = 0; sign <= 30; sign++) {
            due.is("whole: like(" + sign + ")", whole.like(sign), sign);
            due.is("all CUT: like(" + sign + ")", allCut.like(sign), 0);
        }
        for (String line : LINES) {
            LetterNeedles x = Due.laid(line + "mA;");
            int[] reads = new int[31];
            for (int sign = 0; sign <= 30; sign++) reads[sign] = sent(line + "mA;", new int[] {sign}, 1, 0)[0];
            for (int sign = 0; sign <= 30; sign++) {
                int least = 0;
                while (reads[least] != reads[sign]) least++;
                due.is(line + " like(" + sign + ")", x.like(sign), least);
            }
        }
    }

    private static void mendingIs(String text, int wires) {
        due.is(text + " mending(0, 1, 0)", Due.laid(text).mending(0, 1, 0), wires);
    }

    /** "of all sets of WIRES (bits) .. the one of the fewest, of several the least"; "NONE". */
    private static void mendingOfNoneAndAll() {
        mendingIs("mABDEFGHI;", 0);
        mendingIs("c2;t2;mAHL;", 0);
        String[] using = {"A", "H", "K", "B", "A"};
        for (int p = 0; p < 5; p++) {
            mendingIs("c" + p + ";m" + using[p] + ";", 1 << p);
            mendingIs("t" + p + ";m" + using[p] + ";", 1 << p);
        }
        for (int p = 0; p < 4; p++) mendingIs("j" + p + ";m" + "HIKL".charAt(p) + ";", 1 << p);
        mendingIs(ALL_CUT + "mHKA;", 31);
        mendingIs("t0;t1;t2;t3;t4;mHKA;", 31);
        // of WIRES that all TOUCH, each second one parts them all
        mendingIs(ALL_TOUCH + "mHKA;", 10);
        mendingIs("n0,5;mAD;", LetterNeedles.NONE);
        mendingIs(ALL_CUT + "n4,1;mA;", LetterNeedles.NONE);
    }

    /** "MENDED (as far as these can be)". */
    private static void mendingAsFarAsTheseCanBe() {
        // 0 and 1 TOUCH: when the one is MENDED the other one can not be any more
        mendingIs("j0;c0;c1;mH;", 3);
        mendingIs("j0;mH;", 1);
        mendingIs("j0;t1;mH;", 2);
        LetterNeedles x = Due.laid("j0;t1;mH;");
        x.send(0);
        due.is("mending(0, 1, 0)", x.mending(0, 1, 0), 2);
        due.is("nothing was MENDED", x.wire(0, 2) + x.wire(1, 1), 2);
        due.is("nothing more to UNDO", x.count(5), 1);
    }

    /** By 1 and 1: with NOTHING between them a STIFF one spoils all letters that use its PLACE, and no other. */
    private static void changingIs(String text, int both, int many) {
        LetterNeedles x = Due.laid(text);
        due.is(text + " changing(0, 1, 1, 0)", x.changing(0, 1, 1, 0), both);
        due.is(text + " changing(0, 1, 1, 1)", x.changing(0, 1, 1, 1), many);
    }

    /** "most of it are RIGHT, more than as they are": as many are not enough. */
    private static void changingMoreThanAsTheyAre() {
        changingIs("mABDEFGHI;", LetterNeedles.NONE, LetterNeedles.NONE);
        changingIs(ALL_CUT + "n0,1;mABDEFGHI;", LetterNeedles.NONE, LetterNeedles.NONE);
        // each PLACE is used twice, so that one that is STIFF is as bad at any of them
        for (int p = 0; p < 5; p++) changingIs("n" + p + ",1;mHIKLA;", LetterNeedles.NONE, LetterNeedles.NONE);
        // PLACE 0 is used once more than PLACE 1, so that one more is RIGHT then
        changingIs("n0,1;mHIKLAB;", 1, 4);
        changingIs("n0,1;mABABABAB;", 1, 8);
    }

    /** "of several the first (by the lesser one, then by the other)": from 01 to 34. */
    private static void changingTheFirstOfSeveral() {
        changingIs("n0,1;mABE;", 1, 3);
        changingIs("n0,1;mABEH;", 1, 3);
        changingIs("n3,1;mBFK;", 34, 3);
        changingIs("n4,1;mADG;", 34, 3);
        changingIs("n4,1;mL;", 4, 1);
        changingIs("n1,1;mD;", 1, 1);
        // 2 is free, and so is 3
        changingIs("n0,1;mADH;", 2, 3);
        changingIs("n4,1;mADH;", 24, 3);
        LetterNeedles x = Due.laid("n0,1;mADH;mBFK;mA;");
        due.is("by 2 all are RIGHT as they are", x.changing(0, 2, 0, 0), LetterNeedles.NONE);
        due.is("of the next MESSAGE, that has no use for 4", x.changing(1, 1, 1, 0), 4);
        due.is("nothing was CHANGED", x.needle(0, 0), 1);
    }

    private static void orderIs(String text, int r, int letters, int... places) {
        LetterNeedles x = Due.laid(text);
        due.is(text + " order(" + r + ", -2)", x.order(r, -2), LetterNeedles.BAD);
        due.is(text + " order(" + r + ", -1)", x.order(r, -1), letters);
        for (int k = 0; k < 5; k++) due.is(text + " order(" + r + ", " + k + ")", x.order(r, k), places[k]);
        due.is(text + " order(" + r + ", 5)", x.order(r, 5), LetterNeedles.BAD);
        // the NEEDLES brought into that order show as many letters
        StringBuilder ordered = new StringBuilder();
        for (int k = 0; k < 5; k++) ordered.append('n').append(k).append(',').append(x.needle(places[k], 0)).append(';');
        LetterNeedles y = Due.laid(ordered + text.replaceAll("n.,.;", ""));
        due.is(text + " in that order: letters CLEAR", Integer.bitCount(y.clear(r) & (1 << 20) - 1), letters);
    }

    /** "how many letters are CLEAR then (k = -1)": none of 20, all of them. */
    private static void orderOfNoneAndAll() {
        for (int r = 1; r <= 3; r++) {
            orderIs("mA;", r, 20, 0, 1, 2, 3, 4);
            orderIs(ALL_CUT + "mA;", r, 0, 0, 1, 2, 3, 4);
            orderIs(ALL_CUT + "n0,1;n1,4;mA;", r, 0, 0, 1, 2, 3, 4);
            // every letter uses 1 or 2 or 3 or 4, and so another one as well
            orderIs("j1;j3;mA;", r, 0, 0, 1, 2, 3, 4);
        }
        orderIs("n0,1;n1,1;n2,1;n3,1;n4,1;mA;", 1, 0, 0, 1, 2, 3, 4);
        orderIs("n0,1;n1,1;n2,1;n3,1;n4,1;mA;", 2, 20, 0, 1, 2, 3, 4);
    }

    /** "of several the first (by which one, told by its PLACE now, comes to PLACE 0, then to 1, ..)". */
    private static void orderTheFirstOfSeveral() {
        // at PLACE 0, whose WIRE is CUT, a STIFF one does no harm, nor a LED one at PLACE 1
        orderIs("n3,3;n4,1;c0;mA;", 1, 12, 4, 3, 0, 1, 2);
        orderIs("n3,3;n4,4;c0;mA;", 2, 12, 4, 3, 0, 1, 2);
        orderIs("n4,1;c4;mA;", 1, 12, 0, 1, 2, 3, 4);
        orderIs("n0,1;c4;mA;", 1, 12, 1, 2, 3, 4, 0);
        orderIs("n0,3;mA;", 1, 20, 0, 1, 2, 3, 4);
        orderIs("n4,3;mA;", 1, 20, 4, 0, 1, 2, 3);
        // from REST a LAZY or STUCK one is as a PLAIN one, a STIFF one upright for a BEAT
        orderIs("n1,2;n3,5;mA;", 1, 20, 0, 1, 2, 3, 4);
        orderIs("n1,1;mA;", 1, 12, 0, 1, 2, 3, 4);
        LetterNeedles x = Due.laid("n1,2;n3,5;n4,1;mA;");
        x.send(9);
        x.send(9);
        due.is("not as they stand now", x.order(1, -1), 12);
    }
}
