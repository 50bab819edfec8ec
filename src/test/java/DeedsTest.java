/** Promises 9 to 16: send, cut, turn, touch, mend, change, undo, reads. */
public final class DeedsTest {
    private static final Due due = new Due();

    public static void main(String[] args) {
        sendOnWholeLine();
        sendByKinds();
        sendByWires();
        cut();
        turn();
        touch();
        mend();
        change();
        undo();
        undoRestoresAll();
        undoneIsNothingRefused();
        due.end();
    }

    private static void stands(String when, LetterNeedles x, int... want) {
        int[] all = new int[5];
        for (int p = 0; p < 5; p++) all[p] = x.needle(p, 1);
        due.are(when + ": stands", all, want);
    }

    private static void sends(String text, int... signsAndReads) {
        LetterNeedles x = Due.laid(text);
        for (int i = 0; i < signsAndReads.length; i += 2) {
            String call = text + " send numbered " + i / 2 + " (" + signsAndReads[i] + ")";
            due.is(call, x.send(signsAndReads[i]), signsAndReads[i + 1]);
            due.is(call + ", reads() behind it", x.reads(), signsAndReads[i + 1]);
        }
    }

    private static void sendOnWholeLine() {
        LetterNeedles x = Due.laid("mA;");
        for (int sign = 0; sign <= 30; sign++) due.is("whole: send(" + sign + ")", x.send(sign), sign);
        due.is("send(-1)", x.send(-1), LetterNeedles.BAD);
        due.is("send(31)", x.send(31), LetterNeedles.BAD);
        due.is("reads()", x.reads(), 30);
        String[] places = {"A04", "B03", "D14", "E02", "F13", "G24", "H01", "I12", "K23", "L34",
            "M10", "N21", "O32", "P43", "R20", "S31", "T42", "V30", "W41", "Y40"};
        for (String one : places) {
            x.send(Due.sign(one.charAt(0)));
            due.is(one + ": the one to the right", x.needle(one.charAt(1) - '0', 1), 1);
            due.is(one + ": the one to the left", x.needle(one.charAt(2) - '0', 1), 2);
            due.is(one + ": how many not upright", x.count(4), 2);
        }
        for (int p = 0; p < 5; p++) {
            x.send(20 + p);
            due.is("20 and " + p, x.needle(p, 1), 1);
            x.send(25 + p);
            due.is("25 and " + p, x.needle(p, 1), 2);
            due.is("25 and " + p + ": alone", x.count(4), 1);
        }
    }

    private static void sendByKinds() {
        sends("n0,0;mA;", 20, 20, 30, 30, 25, 25);
        sends("n0,1;mA;", 20, 30, 20, 20, 20, 20, 25, 30, 25, 25, 30, 30, 25, 30);
        sends("n0,2;mA;", 20, 20, 30, 20, 30, 30, 25, 25, 20, 20, 21, 31, 21, 21);
        sends("n1,3;mA;", 20, 31, 6, 6, 25, 31, 21, 21, 30, 30, 22, 22);
        sends("n0,3;mA;", 21, 21, 20, 20, 30, 30);
        sends("n4,3;mA;", 23, 31, 24, 24, 20, 20);
        sends("n0,4;mA;", 20, 30, 20, 25, 25, 30, 25, 20, 30, 30, 25, 30);
        sends("n0,5;mA;", 20, 20, 30, 20, 30, 20, 25, 25, 21, 10, 30, 25);
        // a LED one goes by what the one to the left GETS, not by how that one stands
        sends("n0,1;n1,3;mA;", 20, 21, 20, 31);
        sends("n0,5;n1,3;mA;", 20, 31, 30, 20);
        sends("n0,3;n1,3;n2,3;mA;", 20, 31, 30, 30);
        LetterNeedles x = Due.laid("n1,3;n2,3;mA;");
        x.send(20);
        stands("a LED one behind a LED one", x, 1, 1, 0, 0, 0);
    }

    private static void sendByWires() {
        sends("t0;mA;", 20, 25, 25, 20, 0, 31, 21, 21);
        sends("c0;mA;", 20, 30, 25, 30, 0, 29);
        sends("c0;t0;mA;", 20, 30);
        sends("j0;mA;", 20, 31, 6, 30, 10, 30, 22, 22, 30, 30);
        sends("j0;c1;mA;", 20, 20, 21, 30, 6, 20);
        sends("j0;t1;mA;", 20, 31, 6, 31, 21, 31);
        LetterNeedles x = Due.laid("j0;j1;c1;mA;");
        x.send(20);
        stands("touching through a CUT one", x, 1, 0, 1, 0, 0);
        x.send(21);
        stands("a CUT one bears nothing", x, 0, 0, 0, 0, 0);
        x = Due.laid("j0;j1;j2;j3;mA;");
        x.send(28);
        stands("all together, one to the left", x, 2, 2, 2, 2, 2);
        due.is("all to the left", x.reads(), 31);
        x = Due.laid("j0;j1;j2;j3;t1;mA;");
        x.send(Due.sign('H'));
        stands("all together, two to the right", x, 1, 1, 1, 1, 1);
        x = Due.laid("j0;j2;mA;");
        x.send(Due.sign('E'));
        stands("two by two", x, 1, 1, 2, 2, 0);
        x = Due.laid("j0;j1;t1;c2;mA;");
        x.send(Due.sign('E'));
        stands("of a CUT one nothing counts", x, 1, 1, 0, 0, 0);
    }

    private static void cut() {
        LetterNeedles x = Due.laid("mA;");
        due.is("cut(2)", x.cut(2), 1);
        due.is("cut(2) again", x.cut(2), LetterNeedles.NO);
        due.is("cut(4)", x.cut(4), 2);
        due.is("cut(0)", x.cut(0), 3);
        due.is("wire(2, 0)", x.wire(2, 0), 1);
        due.is("wire(1, 0)", x.wire(1, 0), 0);
        due.is("cut(-1)", x.cut(-1), LetterNeedles.BAD);
        due.is("cut(5)", x.cut(5), LetterNeedles.BAD);
        due.is("count(1)", x.count(1), 3);
        x = Due.laid("n0,0;mA;");
        x.send(20);
        x.cut(0);
        due.is("a needle stands till the next beat", x.reads(), 20);
        due.is("and then falls", x.send(20), 30);
    }

    private static void turn() {
        LetterNeedles x = Due.laid("mA;");
        due.is("turn(2)", x.turn(2), 1);
        due.is("turn(4)", x.turn(4), 2);
        due.is("wire(4, 1)", x.wire(4, 1), 1);
        due.is("turn(2) back", x.turn(2), 1);
        due.is("wire(2, 1)", x.wire(2, 1), 0);
        due.is("turn(-1)", x.turn(-1), LetterNeedles.BAD);
        due.is("turn(5)", x.turn(5), LetterNeedles.BAD);
        due.is("count(2)", x.count(2), 1);
    }

    private static void touch() {
        LetterNeedles x = Due.laid("mA;");
        due.is("touch(3)", x.touch(3), 1);
        due.is("touch(3) again", x.touch(3), LetterNeedles.NO);
        due.is("touch(0)", x.touch(0), 2);
        due.is("wire(3, 2)", x.wire(3, 2), 1);
        due.is("wire(4, 2)", x.wire(4, 2), 0);
        due.is("touch(4)", x.touch(4), LetterNeedles.BAD);
        due.is("touch(-1)", x.touch(-1), LetterNeedles.BAD);
        due.is("count(3)", x.count(3), 2);
    }

    private static void mend() {
        LetterNeedles x = Due.laid("c0;t0;j0;j1;j2;c4;t3;mA;");
        due.is("mend(-1)", x.mend(-1), LetterNeedles.BAD);
        due.is("mend(5)", x.mend(5), LetterNeedles.BAD);
        due.is("mend(2): ahead of it and behind it", x.mend(2), 3);
        due.is("wire(1, 2) behind it", x.wire(1, 2), 0);
        due.is("wire(2, 2) behind it", x.wire(2, 2), 0);
        due.is("wire(0, 2) behind it", x.wire(0, 2), 1);
        due.is("mend(2) again", x.mend(2), LetterNeedles.NO);
        due.is("mend(0)", x.mend(0), 2);
        due.is("wire(0, 0) behind it", x.wire(0, 0), 0);
        due.is("wire(0, 1) behind it", x.wire(0, 1), 0);
        due.is("wire(0, 2) behind it", x.wire(0, 2), 0);
        due.is("mend(1): nothing is left to mend", x.mend(1), LetterNeedles.NO);
        due.is("mend(4)", x.mend(4), 1);
        due.is("mend(3)", x.mend(3), 0);
        x = Due.laid("j3;mA;");
        due.is("mend(4) as the one ahead touches it", x.mend(4), 0);
        due.is("wire(3, 2) behind it", x.wire(3, 2), 0);
    }

    private static void change() {
        LetterNeedles x = Due.laid("n0,5;n1,1;mA;");
        x.send(20);
        due.is("change(0, 1)", x.change(0, 1), 1);
        due.is("kind at 1", x.needle(1, 0), 5);
        due.is("stands at 1", x.needle(1, 1), 1);
        due.is("got at 1", x.needle(1, 2), 1);
        due.is("stands at 0", x.needle(0, 1), 0);
        due.is("got at 0", x.needle(0, 2), 0);
        due.is("reads()", x.reads(), 21);
        due.is("a STUCK one takes along how it stands", x.send(30), 21);
        due.is("change(4, 1)", x.change(4, 1), 5);
        due.is("reads() then", x.reads(), 24);
        due.is("change(2, 2)", x.change(2, 2), LetterNeedles.BAD);
        due.is("change(-1, 2)", x.change(-1, 2), LetterNeedles.BAD);
        due.is("change(2, -1)", x.change(2, -1), LetterNeedles.BAD);
        due.is("change(5, 2)", x.change(5, 2), LetterNeedles.BAD);
        due.is("change(2, 5)", x.change(2, 5), LetterNeedles.BAD);
        x = Due.laid("n0,1;mA;");
        x.send(20);
        x.change(0, 3);
        due.is("a STIFF one takes along what it got", x.send(23), 23);
    }

    private static void undo() {
        LetterNeedles x = Due.laid("mA;");
        due.is("undo() of nothing", x.undo(), LetterNeedles.NO);
        for (int i = 1; i <= 10; i++) {
            x.send(19 + i);
            due.is("count(5) behind " + i, x.count(5), Math.min(i, 8));
        }
        for (int left = 7; left >= 0; left--) {
            due.is("undo(), left", x.undo(), left);
            due.is("reads() then", x.reads(), 21 + left);
        }
        due.is("undo() of the ninth", x.undo(), LetterNeedles.NO);
        due.is("reads() then", x.reads(), 21);
        x.send(1);
        x.send(2);
        due.is("undo() of a new one", x.undo(), 1);
        due.is("reads() behind it", x.reads(), 1);
        x.send(3);
        due.is("undo() of one that came for it", x.undo(), 1);
        due.is("reads() behind it", x.reads(), 1);
    }

    private static void undoRestoresAll() {
        LetterNeedles x = Due.laid("n0,5;n1,1;n2,2;c3;t4;j1;mA;");
        x.send(Due.sign('H'));
        String ahead = Due.all(x);
        x.cut(0);
        x.turn(1);
        x.touch(2);
        x.mend(3);
        x.change(0, 4);
        x.send(7);
        for (int left = 6; left >= 1; left--) due.is("undo()", x.undo(), left);
        due.holds("all is as it was", Due.all(x).equals(ahead));
        due.is("undo() of the first", x.undo(), 0);
        due.is("at rest again", x.reads(), 30);
    }

    private static void undoneIsNothingRefused() {
        LetterNeedles x = Due.laid("c1;j1;mA;");
        x.send(31);
        x.cut(1);
        x.cut(5);
        x.turn(5);
        x.touch(1);
        x.touch(4);
        x.mend(4);
        x.mend(5);
        x.change(1, 1);
        due.is("count(5) behind what was refused", x.count(5), 0);
        x.said(0, 1, 1, -1);
        x.mending(0, 1, 1);
        x.order(1, -1);
        x.duel(0, 4);
        x.day(1, 60, 0);
        x.keep();
        due.is("count(5) behind what is no deed", x.count(5), 0);
    }
}
