import java.util.function.Supplier;
import java.util.function.ToIntFunction;

/** All that calls can tell of an object, so that it is seen whether one of them has changed anything. */
final class Whole {
    private Whole() {
    }

    /**
     * Whether an object that was asked is as a twin that was not. What can be UNDONE is looked at on one
     * pair of twins, what is KEPT and what THE TEXT tells on another, as an object is for 512 calls.
     */
    static boolean isUnchangedBy(Supplier<LetterNeedles> made, ToIntFunction<LetterNeedles> call) {
        LetterNeedles asked = made.get();
        call.applyAsInt(asked);
        LetterNeedles askedToo = made.get();
        call.applyAsInt(askedToo);
        return nowAndUndone(asked).equals(nowAndUndone(made.get()))
            && keptAndLaid(askedToo).equals(keptAndLaid(made.get()));
    }

    private static String nowAndUndone(LetterNeedles x) {
        StringBuilder told = new StringBuilder(now(x));
        int deeds = x.count(5);
        for (int i = 0; i <= deeds; i++) told.append(x.undo()).append(Due.all(x));
        return told.toString();
    }

    private static String keptAndLaid(LetterNeedles x) {
        StringBuilder told = new StringBuilder(now(x));
        int kept = x.count(6);
        for (int i = 0; i <= kept; i++) told.append(x.back()).append(Due.all(x));
        return told.append(x.lay()).append(now(x)).toString();
    }

    private static String now(LetterNeedles x) {
        StringBuilder told = new StringBuilder(Due.all(x));
        for (int what = 0; what < 10; what++) told.append(x.count(what)).append(' ');
        for (int message = 0; message < x.count(0); message++) {
            int many = x.spelt(message, -1);
            for (int k = 0; k < many; k++) told.append(x.spelt(message, k)).append(' ');
            told.append(';');
        }
        return told.append(x.reads()).append(' ').append(x.canBe()).append(' ').append(x.fits()).append(' ')
            .append(x.fault()).append('\n').toString();
    }

    /** One of each KIND, faults of each kind, more deeds than can be UNDONE, something SEEN, HEARD, KEPT, written. */
    static LetterNeedles busy() {
        LetterNeedles x = Due.laid("n0,5;n1,1;n2,2;n3,3;n4,4;c4;t3;j0;mQUAKER;mAB;mZ;");
        x.send(Due.sign('H'));
        x.cut(1);
        x.keep();
        x.turn(2);
        x.touch(2);
        x.send(25);
        x.change(0, 4);
        x.mend(3);
        x.turn(0);
        x.send(24);
        x.send(Due.sign('K'));
        x.see(20, 20);
        x.see(24, 24);
        x.hear(0);
        x.hear(31);
        x.write('c');
        return x;
    }

    /** THE TEXT, what is SEEN, HEARD, KEPT: as much as can be of each. */
    static LetterNeedles full() {
        LetterNeedles x = Due.laid(textOf200());
        x.send(0);
        x.keep();
        x.cut(0);
        x.keep();
        x.send(9);
        for (int i = 0; i < 8; i++) x.see(20 + i, 20 + i);
        for (int i = 0; i < 8; i++) x.hear(i);
        return x;
    }

    /** Six MESSAGES of eight letters (60 letters) and 28 NEEDLES of KINDS (140), the last ones at the end. */
    static String textOf200() {
        StringBuilder b = new StringBuilder("mABDEFGHI;mKLMNOPRS;mTVWYABDE;mCJQUXZCJ;mAAAAAAAA;mZZZZZZZY;");
        for (int i = 0; i < 28; i++) b.append('n').append(i % 5).append(',').append(i % 6).append(';');
        return b.toString();
    }
}
