import java.util.function.Supplier;
import java.util.function.ToIntFunction;

/** Counts the calls whose answer is not the one that is due. */
final class Due {
    private int calls;
    private int wrong;

    void is(String call, long got, long want) {
        calls++;
        if (got != want) {
            wrong++;
            System.out.println(call + " answered " + got + ", due is " + want);
        }
    }

    /** Every answer of a row of equal calls, which are told by one name. */
    void are(String calls, int[] got, int... want) {
        is(calls + ", how many", got.length, want.length);
        for (int i = 0; i < Math.min(got.length, want.length); i++) {
            is(calls + ", the one numbered " + i, got[i], want[i]);
        }
    }

    void holds(String what, boolean isSo) {
        is(what, isSo ? 1 : 0, 1);
    }

    /** That a call on such an object is answered so, and that nothing has changed then. */
    void changesNothing(String name, Supplier<LetterNeedles> made, ToIntFunction<LetterNeedles> call, int want) {
        is(name, call.applyAsInt(made.get()), want);
        holds(name + ": nothing has changed", Whole.isUnchangedBy(made, call));
    }

    void end() {
        System.out.println(calls + " answers, " + wrong + " not as due");
        if (wrong != 0 || calls == 0) {
            System.exit(1);
        }
    }

    static LetterNeedles laid(String text) {
        LetterNeedles x = new LetterNeedles();
        writeAll(x, text);
        if (x.lay() < 1) {
            throw new IllegalStateException("not laid: " + text);
        }
        return x;
    }

    static void writeAll(LetterNeedles x, String text) {
        for (int i = 0; i < text.length(); i++) {
            x.write(text.charAt(i));
        }
    }

    static int faultOf(String text) {
        LetterNeedles x = new LetterNeedles();
        writeAll(x, text);
        return x.fault();
    }

    /** All that can be asked of NEEDLES and WIRES. */
    static String all(LetterNeedles x) {
        StringBuilder b = new StringBuilder();
        for (int p = 0; p < 5; p++) {
            for (int what = 0; what < 3; what++) b.append(x.needle(p, what)).append(x.wire(p, what)).append(' ');
        }
        return b.toString();
    }

    static int sign(char letter) {
        return "ABDEFGHIKLMNOPRSTVWY".indexOf(letter);
    }
}
