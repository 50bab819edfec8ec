/** Promises 17 to 23: said, pace, clear, like, mending, changing, order. */
public final class ReadingTest {
    private static final Due due = new Due();
    private static final int ALL_POINTING = (1 << 30) - 1;

    public static void main(String[] args) {
        said();
        saidFromRest();
        pace();
        clear();
        like();
        mending();
        changing();
        order();
        wrongNumbers();
        due.end();
    }

    private static void said() {
        LetterNeedles x = Due.laid("n0,2;mAD;mB;");
        due.is("AD by 1, 0: right", x.said(0, 1, 0, -1), 1);
        due.is("AD by 1, 0: A", x.said(0, 1, 0, 0), 0);
        due.is("AD by 1, 0: D with a lazy one", x.said(0, 1, 0, 1), 31);
        due.is("AD by 1, 1: right", x.said(0, 1, 1, -1), 2);
        due.is("AD by 1, 1: D", x.said(0, 1, 1, 1), 2);
        due.is("AD by 2, 0: right", x.said(0, 2, 0, -1), 2);
        due.is("AD: the third", x.said(0, 1, 0, 2), LetterNeedles.NONE);
        due.is("AD: the eighth", x.said(0, 1, 0, 7), LetterNeedles.NONE);
        due.is("B", x.said(1, 3, 3, 0), 1);
        x = Due.laid("n0,1;mAA;");
        due.is("AA by 1, 0: the first", x.said(0, 1, 0, 0), 29);
        due.is("AA by 1, 0: the second", x.said(0, 1, 0, 1), 0);
        due.is("AA by 1, 1: right", x.said(0, 1, 1, -1), 0);
        due.is("AA by 2, 3: right", x.said(0, 2, 3, -1), 2);
    }

    private static void saidFromRest() {
        LetterNeedles x = Due.laid("n0,5;mD;");
        x.send(20);
        due.is("D from rest", x.said(0, 1, 0, 0), 2);
        due.is("nothing was done", x.reads(), 20);
        due.is("nothing more to undo", x.count(5), 1);
        due.is("D sent", x.send(2), 31);
    }

    private static void paceIs(String text, int r, int g) {
        LetterNeedles x = Due.laid(text);
        due.is(text + " pace, r", x.pace(0, 0), r);
        due.is(text + " pace, g", x.pace(0, 1), g);
    }

    private static void pace() {
        paceIs("mQUAKER;", 1, 0);
        paceIs("n0,2;mAD;", 1, 1);
        paceIs("n0,1;mAD;", 2, 0);
        paceIs("n0,5;mAD;", LetterNeedles.NONE, LetterNeedles.NONE);
        paceIs("n0,5;mDA;", 1, 0);
        paceIs("c0;mA;", LetterNeedles.NONE, LetterNeedles.NONE);
        // by 2 and 0 the lazy one still stands as the B ahead left it in the first beat only
        paceIs("n0,2;n1,1;mBF;", 2, 0);
        paceIs("n0,1;n0,4;t0;mA;", 2, 0);
    }

    private static void clear() {
        int usesNeedle0 = bits("ABEHMRVY") | 1 << 20 | 1 << 25;
        for (int r = 1; r <= 3; r++) due.is("whole: clear(" + r + ")", Due.laid("mA;").clear(r), ALL_POINTING);
        LetterNeedles x = Due.laid("n0,1;mA;");
        x.send(20);
        due.is("stiff: clear(1) from rest", x.clear(1), ALL_POINTING & ~usesNeedle0);
        due.is("stiff: clear(2)", x.clear(2), ALL_POINTING);
        due.is("stiff: clear(3)", x.clear(3), ALL_POINTING);
        x = Due.laid("n0,4;mA;");
        for (int r = 1; r <= 3; r++) due.is("contrary: clear", x.clear(r), ALL_POINTING & ~usesNeedle0);
        x = Due.laid("c0;mA;");
        for (int r = 1; r <= 3; r++) due.is("cut: clear", x.clear(r), ALL_POINTING & ~usesNeedle0);
    }

    private static int bits(String letters) {
        int bits = 0;
        for (int i = 0; i < letters.length(); i++) bits |= 1 << Due.sign(letters.charAt(i));
        return bits;
    }

    private static void like() {
        LetterNeedles x = Due.laid("mA;");
        for (int sign = 0; sign <= 30; sign++) due.is("whole: like(" + sign + ")", x.like(sign), sign);
        x = Due.laid("c0;mA;");
        int[] alike = {29, 0, 28, 1, 27, 3, 26, 6, 21, 10, 22, 14, 23, 17, 24, 19, 30, 20, 25, 20, 2, 2, 9, 9};
        for (int i = 0; i < alike.length; i += 2) due.is("cut: like(" + alike[i] + ")", x.like(alike[i]), alike[i + 1]);
        // in one BEAT a STIFF one is as good as none, in two it would not be
        x = Due.laid("n0,1;mA;");
        due.is("stiff: like(29)", x.like(29), 0);
        due.is("stiff: like(20)", x.like(20), 20);
        due.is("stiff: like(25)", x.like(25), 20);
        due.is("stiff: like(30)", x.like(30), 20);
        x = Due.laid("j0;j1;j2;j3;mA;");
        due.is("all touch: like(30)", x.like(30), 0);
        due.is("all touch: like(24), muddles", x.like(24), 20);
        due.is("all touch: like(29), muddles", x.like(29), 20);
    }

    private static void mendingIs(String text, int r, int g, int wires) {
        due.is(text + " mending(0, " + r + ", " + g + ")", Due.laid(text).mending(0, r, g), wires);
    }

    private static void mending() {
        mendingIs("mA;", 1, 0, 0);
        mendingIs("c2;mA;", 1, 0, 0);
        mendingIs("c2;mKA;", 1, 0, 4);
        mendingIs("c2;t4;mKA;", 1, 0, 20);
        mendingIs("j3;mA;", 1, 0, 8);
        mendingIs("j0;j1;mA;", 1, 0, 1);
        mendingIs("j1;j2;mIK;", 1, 0, 4);
        mendingIs("j0;j3;mHL;", 1, 0, 9);
        mendingIs("c0;c1;c2;c3;c4;mHLK;", 1, 0, 31);
        mendingIs("n0,1;mA;", 1, 0, LetterNeedles.NONE);
        mendingIs("n0,1;mA;", 2, 0, 0);
        mendingIs("n0,1;t4;mA;", 3, 3, 16);
        LetterNeedles x = Due.laid("c0;mA;");
        x.mending(0, 1, 0);
        due.is("nothing was mended", x.wire(0, 0), 1);
    }

    private static void changingIs(String text, int both, int right) {
        LetterNeedles x = Due.laid(text);
        due.is(text + " changing, which", x.changing(0, 1, 0, 0), both);
        due.is(text + " changing, how many", x.changing(0, 1, 0, 1), right);
    }

    private static void changing() {
        changingIs("mA;", LetterNeedles.NONE, LetterNeedles.NONE);
        changingIs("n0,1;mAB;", 1, 2);
        changingIs("n0,1;mABD;", 2, 3);
        changingIs("n3,1;mF;", 3, 1);
        changingIs("n4,1;mAL;", 14, 2);
        changingIs("c0;mA;", LetterNeedles.NONE, LetterNeedles.NONE);
        LetterNeedles x = Due.laid("n0,1;mAB;");
        due.is("by 2 all is right as it is", x.changing(0, 2, 0, 0), LetterNeedles.NONE);
        due.is("nothing was changed", x.needle(0, 0), 1);
    }

    private static void orderIs(String text, int r, int letters, int... places) {
        LetterNeedles x = Due.laid(text);
        due.is(text + " order(" + r + ", -1)", x.order(r, -1), letters);
        int[] got = new int[5];
        for (int k = 0; k < 5; k++) got[k] = x.order(r, k);
        due.are(text + " order(" + r + ", k)", got, places);
    }

    private static void order() {
        orderIs("mA;", 1, 20, 0, 1, 2, 3, 4);
        orderIs("n2,1;mA;", 1, 12, 0, 1, 2, 3, 4);
        orderIs("n2,1;mA;", 2, 20, 0, 1, 2, 3, 4);
        // a LED one at PLACE 0 is as good as a PLAIN one
        orderIs("n1,3;mA;", 1, 20, 1, 0, 2, 3, 4);
        orderIs("n4,3;mA;", 3, 20, 4, 0, 1, 2, 3);
        // what hangs on the CUT wire is lost anyway
        orderIs("c0;n4,1;mA;", 1, 12, 4, 0, 1, 2, 3);
        orderIs("c3;n0,4;n1,0;mA;", 2, 12, 1, 2, 3, 0, 4);
        // a TURNED wire comes right by a CONTRARY one
        orderIs("t4;n0,4;mA;", 2, 20, 1, 2, 3, 4, 0);
        orderIs("t4;n0,4;mA;", 1, 12, 1, 2, 3, 4, 0);
        LetterNeedles x = Due.laid("mA;");
        due.is("whole: order(1, -1)", x.order(1, -1), 20);
        x.cut(0);
        due.is("cut since: order(1, -1)", x.order(1, -1), 12);
        due.is("cut since: order(1, 0)", x.order(1, 0), 0);
    }

    private static void wrongNumbers() {
        LetterNeedles x = new LetterNeedles();
        int[][] bad = {{-1, 1, 0}, {3, 1, 0}, {0, 0, 0}, {0, 4, 0}, {0, 1, -1}, {0, 1, 4}};
        for (int[] b : bad) {
            String with = " with " + b[0] + ", " + b[1] + ", " + b[2];
            due.is("said" + with, x.said(b[0], b[1], b[2], -1), LetterNeedles.BAD);
            due.is("mending" + with, x.mending(b[0], b[1], b[2]), LetterNeedles.BAD);
            due.is("changing" + with, x.changing(b[0], b[1], b[2], 0), LetterNeedles.BAD);
        }
        due.is("said, k = -2", x.said(0, 1, 0, -2), LetterNeedles.BAD);
        due.is("said, k = 8", x.said(0, 1, 0, 8), LetterNeedles.BAD);
        due.is("said, said with NONE and BAD", x.said(0, 4, 0, 7), LetterNeedles.BAD);
        due.is("changing, what = -1", x.changing(0, 1, 0, -1), LetterNeedles.BAD);
        due.is("changing, what = 2", x.changing(0, 1, 0, 2), LetterNeedles.BAD);
        due.is("pace(-1, 0)", x.pace(-1, 0), LetterNeedles.BAD);
        due.is("pace(3, 0)", x.pace(3, 0), LetterNeedles.BAD);
        due.is("pace(0, -1), that has none", x.pace(0, -1), LetterNeedles.BAD);
        due.is("pace(0, 2), that has none", x.pace(0, 2), LetterNeedles.BAD);
        due.is("clear(0)", x.clear(0), LetterNeedles.BAD);
        due.is("clear(4)", x.clear(4), LetterNeedles.BAD);
        due.is("like(-1)", x.like(-1), LetterNeedles.BAD);
        due.is("like(31)", x.like(31), LetterNeedles.BAD);
        due.is("order(0, 0)", x.order(0, 0), LetterNeedles.BAD);
        due.is("order(4, 0)", x.order(4, 0), LetterNeedles.BAD);
        due.is("order(1, -2)", x.order(1, -2), LetterNeedles.BAD);
        due.is("order(1, 5)", x.order(1, 5), LetterNeedles.BAD);
    }
}
