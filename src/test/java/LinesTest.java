/** Promises 1 to 8: a new object, write, wipe, fault, lay, needle, wire, spelt. */
public final class LinesTest {
    private static final Due due = new Due();

    public static void main(String[] args) {
        newObject();
        write();
        wipe();
        fault();
        layAnswers();
        layClears();
        layRefused();
        needle();
        wire();
        spelt();
        due.end();
    }

    private static int[] spelling(LetterNeedles x, int message) {
        int[] signs = new int[x.spelt(message, -1)];
        for (int k = 0; k < signs.length; k++) signs[k] = x.spelt(message, k);
        return signs;
    }

    private static int[] needles(LetterNeedles x, int what) {
        int[] all = new int[5];
        for (int p = 0; p < 5; p++) all[p] = x.needle(p, what);
        return all;
    }

    private static int[] wires(LetterNeedles x, int what) {
        int[] all = new int[5];
        for (int p = 0; p < 5; p++) all[p] = x.wire(p, what);
        return all;
    }

    private static int[] counts(LetterNeedles x) {
        int[] all = new int[10];
        for (int what = 0; what < 10; what++) all[what] = x.count(what);
        return all;
    }

    private static void newObject() {
        LetterNeedles x = new LetterNeedles();
        due.are("new: kinds", needles(x, 0), 0, 1, 0, 2, 0);
        due.are("new: stands", needles(x, 1), 0, 0, 0, 0, 0);
        due.are("new: got", needles(x, 2), 0, 0, 0, 0, 0);
        due.are("new: cut", wires(x, 0), 0, 0, 0, 0, 0);
        due.are("new: turned", wires(x, 1), 0, 0, 0, 0, 0);
        due.are("new: touching", wires(x, 2), 0, 0, 0, 1, 0);
        due.are("new: QUAKER as KWAKER", spelling(x, 0), 8, 18, 0, 8, 3, 14);
        due.are("new: SLOUGH as SLOWGH", spelling(x, 1), 15, 9, 12, 18, 5, 6);
        due.are("new: LATE", spelling(x, 2), 9, 0, 16, 3);
        due.are("new: counts", counts(x), 3, 0, 0, 1, 0, 0, 0, 0, 0, 0);
        due.is("new: reads()", x.reads(), 30);
        due.is("new: fault()", x.fault(), LetterNeedles.NONE);
        due.is("new: lay() of the empty text", x.lay(), LetterNeedles.NO);
    }

    private static void write() {
        LetterNeedles x = new LetterNeedles();
        due.is("write(31)", x.write(31), LetterNeedles.BAD);
        due.is("write(32)", x.write(32), 1);
        due.is("write(126)", x.write(126), 2);
        due.is("write(127)", x.write(127), LetterNeedles.BAD);
        due.is("write(-1)", x.write(-1), LetterNeedles.BAD);
        due.is("write(65536 + 65)", x.write(65536 + 65), LetterNeedles.BAD);
        for (int i = 3; i <= 200; i++) due.is("write, the letter numbered " + i, x.write('A'), i);
        due.is("write the 201st", x.write('A'), LetterNeedles.FULL);
        due.is("write(31) to a full text", x.write(31), LetterNeedles.BAD);
        due.is("how long a full text is", x.count(9), 200);
    }

    private static void wipe() {
        LetterNeedles x = new LetterNeedles();
        due.is("wipe() at first", x.wipe(), 0);
        Due.writeAll(x, "zz");
        due.is("wipe()", x.wipe(), 2);
        due.is("count(9) behind it", x.count(9), 0);
        due.is("fault() behind it", x.fault(), LetterNeedles.NONE);
        due.is("write behind it", x.write('c'), 1);
        due.is("count(0) behind it: what is laid stays", x.count(0), 3);
    }

    private static void faultIs(int place, String... texts) {
        for (String text : texts) due.is("fault of " + text, Due.faultOf(text), place);
    }

    private static void fault() {
        faultIs(LetterNeedles.NONE, "", "n0,0;", "n4,5;", "c0;", "c4;", "t0;", "t4;", "j0;", "j3;", "mA;", "mZ;",
            "mABCDEFGH;", "n1,1;n3,2;j3;mQUAKER;mSLOUGH;mLATE;", "c1;c1;t1;t1;j1;j1;n1,2;n1,3;", "mA;mA;mA;mA;mA;mA;");
        faultIs(0, "n5,0;", "n0,6;", "n9,9;", "n0;", "n0,;", "n,0;", "n00,1;", "n0,1,2;", "n0 1;", "n0,1", "n0,1,", "n",
            "c5;", "c;", "c", "c0", "c0,", "c00;", "c0,1;", "t5;", "t/;", "t:;", "j4;", "j0,1;", "m;", "m", "mA", "mABCDEFGHI;",
            "mABCDEFGH", "m@;", "m[;", "ma;", "mA1;", "m1;", "mA,B;", "x0;", "C0;", "N0,0;", " c0;", ";", "0;", ",");
        faultIs(3, "c0;c5;", "c0;;", "c0; t0;", "c0;c1", "j3;j4;", "mA;m;", "mA;mABCDEFGHI;mB;", "t0;x", "c0;c5;c6;");
        faultIs(18, "mA;mA;mA;mA;mA;mA;mA;", "mA;mA;mA;mA;mA;mA;mA;z", "mA;mA;mA;mA;mA;mA;m");
        faultIs(21, "mA;mA;mA;mA;mA;mA;c0;mA;");
        StringBuilder full = new StringBuilder();
        for (int i = 0; i < 66; i++) full.append("c0;");
        faultIs(LetterNeedles.NONE, full.toString());
        faultIs(198, full.append("c0").toString());
    }

    private static void layAnswers() {
        LetterNeedles x = new LetterNeedles();
        Due.writeAll(x, "n1,2;n1,4;c0;c0;t3;t3;j1;j1;mAB;c4;mC;n0,5;");
        due.is("lay()", x.lay(), 2);
        due.are("laid: the last kind of each", needles(x, 0), 5, 4, 0, 0, 0);
        due.are("laid: cut", wires(x, 0), 1, 0, 0, 0, 1);
        due.are("laid: turned", wires(x, 1), 0, 0, 0, 1, 0);
        due.are("laid: touching", wires(x, 2), 0, 1, 0, 0, 0);
        due.are("laid: AB", spelling(x, 0), 0, 1);
        due.are("laid: C", spelling(x, 1), 8);
        due.is("laid: the text stays", x.count(9), 43);
        due.is("lay() once more", x.lay(), 2);
        x.wipe();
        Due.writeAll(x, "mA;mB;mD;mE;mF;mG;");
        due.is("lay() of six", x.lay(), 6);
        due.are("laid anew: kinds", needles(x, 0), 0, 0, 0, 0, 0);
        due.are("laid anew: cut", wires(x, 0), 0, 0, 0, 0, 0);
        due.are("laid anew: turned", wires(x, 1), 0, 0, 0, 0, 0);
        due.are("laid anew: touching", wires(x, 2), 0, 0, 0, 0, 0);
        due.are("laid anew: G", spelling(x, 5), 5);
    }

    private static void layClears() {
        LetterNeedles x = new LetterNeedles();
        x.send(20);
        x.keep();
        x.see(1, 1);
        x.hear(1);
        Due.writeAll(x, "n0,5;mA;");
        due.are("ahead of lay(): counts", counts(x), 3, 0, 0, 1, 1, 1, 1, 1, 1, 8);
        due.is("lay()", x.lay(), 1);
        due.are("behind lay(): counts", counts(x), 1, 0, 0, 0, 0, 0, 0, 0, 0, 8);
        due.are("behind lay(): at rest", needles(x, 1), 0, 0, 0, 0, 0);
        due.are("behind lay(): nothing got", needles(x, 2), 0, 0, 0, 0, 0);
        due.is("behind lay(): undo()", x.undo(), LetterNeedles.NO);
        due.is("behind lay(): back()", x.back(), LetterNeedles.NO);
    }

    private static void layRefused() {
        for (String text : new String[] {"", "n0,5;c1;", "n0,5;mA;x", "n0,5;mA;mB", "mA;mA;mA;mA;mA;mA;mA;"}) {
            LetterNeedles x = new LetterNeedles();
            x.send(20);
            x.keep();
            x.see(1, 1);
            x.hear(1);
            Due.writeAll(x, text);
            due.is("lay() of " + text, x.lay(), LetterNeedles.NO);
            due.are("refused: counts", counts(x), 3, 0, 0, 1, 1, 1, 1, 1, 1, text.length());
            due.are("refused: kinds", needles(x, 0), 0, 1, 0, 2, 0);
            due.are("refused: stands", needles(x, 1), 1, 0, 0, 0, 0);
        }
    }

    private static void needle() {
        LetterNeedles x = Due.laid("n0,0;n1,1;n2,2;n3,3;n4,4;mA;");
        due.are("needle(p, 0)", needles(x, 0), 0, 1, 2, 3, 4);
        x.send(Due.sign('K'));
        due.are("K: stands (the one at 4 is CONTRARY)", needles(x, 1), 0, 0, 1, 2, 0);
        due.are("K: got", needles(x, 2), 0, 0, 1, 2, 0);
        x.send(30);
        due.are("NOTHING: stands", needles(x, 1), 0, 0, 1, 0, 0);
        due.are("NOTHING: got", needles(x, 2), 0, 0, 0, 0, 0);
        for (int what = 0; what < 3; what++) {
            due.is("needle(-1, .)", x.needle(-1, what), LetterNeedles.BAD);
            due.is("needle(5, .)", x.needle(5, what), LetterNeedles.BAD);
        }
        due.is("needle(0, -1)", x.needle(0, -1), LetterNeedles.BAD);
        due.is("needle(0, 3)", x.needle(0, 3), LetterNeedles.BAD);
    }

    private static void wire() {
        LetterNeedles x = Due.laid("c1;t2;j3;j0;mA;");
        due.are("wire(p, 0)", wires(x, 0), 0, 1, 0, 0, 0);
        due.are("wire(p, 1)", wires(x, 1), 0, 0, 1, 0, 0);
        due.are("wire(p, 2)", wires(x, 2), 1, 0, 0, 1, 0);
        for (int what = 0; what < 3; what++) {
            due.is("wire(-1, .)", x.wire(-1, what), LetterNeedles.BAD);
            due.is("wire(5, .)", x.wire(5, what), LetterNeedles.BAD);
        }
        due.is("wire(0, -1)", x.wire(0, -1), LetterNeedles.BAD);
        due.is("wire(0, 3)", x.wire(0, 3), LetterNeedles.BAD);
    }

    private static void spelt() {
        LetterNeedles x = Due.laid("mABCDEFGH;mIJKLMNOP;mQRSTUVWX;mYZ;");
        due.are("A to H", spelling(x, 0), 0, 1, 8, 2, 3, 4, 5, 6);
        due.are("I to P", spelling(x, 1), 7, 5, 8, 9, 10, 11, 12, 13);
        due.are("Q to X", spelling(x, 2), 8, 14, 15, 16, 18, 17, 18, 15);
        due.are("Y, Z", spelling(x, 3), 19, 15);
        due.is("spelt(3, 2)", x.spelt(3, 2), LetterNeedles.NONE);
        due.is("spelt(3, 7)", x.spelt(3, 7), LetterNeedles.NONE);
        due.is("spelt(3, 8)", x.spelt(3, 8), LetterNeedles.BAD);
        due.is("spelt(3, -2)", x.spelt(3, -2), LetterNeedles.BAD);
        due.is("spelt(4, 0)", x.spelt(4, 0), LetterNeedles.BAD);
        due.is("spelt(4, -1)", x.spelt(4, -1), LetterNeedles.BAD);
        due.is("spelt(-1, 0)", x.spelt(-1, 0), LetterNeedles.BAD);
    }
}
