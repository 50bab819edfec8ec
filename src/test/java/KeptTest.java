/** Promises 34 to 36: keep, back, count. */
public final class KeptTest {
    private static final Due due = new Due();

    public static void main(String[] args) {
        keepAndBack();
        backBringsAll();
        count();
        due.end();
    }

    private static void keepAndBack() {
        LetterNeedles x = Due.laid("mA;");
        due.is("back() at first", x.back(), LetterNeedles.NO);
        x.send(1);
        due.is("keep()", x.keep(), 1);
        x.send(2);
        due.is("keep() again", x.keep(), 2);
        x.send(3);
        due.is("keep() a third", x.keep(), LetterNeedles.FULL);
        due.is("count(6)", x.count(6), 2);
        due.is("count(5): keeping undoes nothing", x.count(5), 3);
        due.is("undo() goes past what was kept", x.undo(), 2);
        due.is("back()", x.back(), 1);
        due.is("reads()", x.reads(), 2);
        due.is("count(5): nothing to undo", x.count(5), 0);
        due.is("undo()", x.undo(), LetterNeedles.NO);
        x.send(4);
        due.is("keep() in its place", x.keep(), 2);
        x.send(5);
        due.is("back() to that", x.back(), 1);
        due.is("reads() then", x.reads(), 4);
        due.is("back() to the first", x.back(), 0);
        due.is("reads() then", x.reads(), 1);
        x.send(6);
        due.is("back() of none", x.back(), LetterNeedles.NO);
        due.is("refused: count(5)", x.count(5), 1);
        due.is("refused: reads()", x.reads(), 6);
    }

    private static void backBringsAll() {
        LetterNeedles x = Due.laid("n0,5;n1,1;n2,2;c3;t4;j1;mA;");
        x.send(Due.sign('H'));
        String ahead = Due.all(x);
        x.keep();
        x.see(1, 1);
        x.hear(1);
        x.cut(0);
        x.turn(1);
        x.touch(2);
        x.mend(3);
        x.change(0, 4);
        x.send(7);
        due.holds("much is otherwise", !Due.all(x).equals(ahead));
        due.is("back()", x.back(), 0);
        due.holds("all is as it was", Due.all(x).equals(ahead));
        due.is("what is SEEN stays", x.count(7), 1);
        due.is("what is HEARD stays", x.count(8), 1);
    }

    private static void count() {
        LetterNeedles x = Due.laid("mA;mB;c0;c1;c2;t0;t1;t3;t4;j0;");
        x.send(Due.sign('L'));
        x.turn(2);
        x.keep();
        for (int i = 0; i < 3; i++) x.see(0, 0);
        for (int i = 0; i < 6; i++) x.hear(0);
        int[] got = new int[10];
        for (int what = 0; what < 10; what++) got[what] = x.count(what);
        due.are("count(what)", got, 2, 3, 5, 1, 2, 2, 1, 3, 6, 30);
        due.is("count(-1)", x.count(-1), LetterNeedles.BAD);
        due.is("count(10)", x.count(10), LetterNeedles.BAD);
    }
}
