import java.util.ArrayList;
import java.util.List;
import java.util.function.Supplier;
import java.util.function.ToIntFunction;

/**
 * "NO: not as things stand. NONE: there is none. FULL. .. nothing changes then": every call that is refused so, at
 * the edge where it begins to be; and that questions, which are answered, change nothing as well.
 */
public final class RefusedTest {
    private static final Due due = new Due();

    public static void main(String[] args) {
        layIsRefused();
        wiresAreRefused();
        undoIsRefused();
        backIsRefused();
        fullIsRefused();
        fullStaysAsItWas();
        noneIsAnswered();
        questionsChangeNothing();
        questionsInAnyOrder();
        due.end();
    }

    private static Supplier<LetterNeedles> busyWith(String text) {
        return () -> {
            LetterNeedles x = Whole.busy();
            x.wipe();
            Due.writeAll(x, text);
            return x;
        };
    }

    private static void layIsRefused() {
        String[] texts = {"", "c0;", "n0,1;t4;j3;", "mA", "m;", "mABCDEFGHI;", "mA;x", "xmA;", "mA;mA;mA;mA;mA;mA;mA;", "mA; ", "MA;"};
        for (String text : texts) due.changesNothing("lay() of " + text, busyWith(text), LetterNeedles::lay, LetterNeedles.NO);
    }

    private static void wiresAreRefused() {
        for (int p = 0; p < 5; p++) {
            int wire = p;
            due.changesNothing("cut(" + p + ") of a CUT one", () -> Due.laid("c" + wire + ";mA;"), x -> x.cut(wire), LetterNeedles.NO);
            for (int q = 0; q < 5; q++) {
                if (q == p) continue;
                String other = q + ";mA;";
                due.is("c" + other + " cut(" + p + ")", Due.laid("c" + other).cut(p), 2);
                due.changesNothing("c" + other + " mend(" + p + ")", () -> Due.laid("c" + other), x -> x.mend(wire), LetterNeedles.NO);
                due.changesNothing("t" + other + " mend(" + p + ")", () -> Due.laid("t" + other), x -> x.mend(wire), LetterNeedles.NO);
            }
            due.is("c" + p + "; mend(" + p + ")", Due.laid("c" + p + ";mA;").mend(p), 0);
            due.is("t" + p + "; mend(" + p + ")", Due.laid("t" + p + ";mA;").mend(p), 0);
        }
        for (int j = 0; j < 4; j++) {
            int touching = j;
            Supplier<LetterNeedles> line = () -> Due.laid("j" + touching + ";mA;");
            due.changesNothing("touch(" + j + ") of one that does", line, x -> x.touch(touching), LetterNeedles.NO);
            for (int p = 0; p < 5; p++) {
                int wire = p;
                boolean can = p == j || p == j + 1;
                due.is("j" + j + "; mend(" + p + ")", line.get().mend(p), can ? 0 : LetterNeedles.NO);
                if (!can) due.changesNothing("j" + j + "; mend(" + p + ")", line, x -> x.mend(wire), LetterNeedles.NO);
                if (p < 4 && p != j) due.is("j" + j + "; touch(" + p + ")", line.get().touch(p), 2);
            }
        }
    }

    private static LetterNeedles behindUndoing(int deeds) {
        LetterNeedles x = Due.laid("mA;");
        for (int i = 0; i < deeds; i++) x.send(20 + i % 10);
        for (int left = Math.min(deeds, 8); left > 0; left--) x.undo();
        return x;
    }

    private static void undoIsRefused() {
        due.changesNothing("undo() at first", LetterNeedles::new, LetterNeedles::undo, LetterNeedles.NO);
        for (int deeds : new int[] {1, 7, 8, 9, 16, 17, 40}) {
            due.changesNothing("undo() when all of " + deeds + " are", () -> behindUndoing(deeds), LetterNeedles::undo, LetterNeedles.NO);
            int first = deeds <= 8 ? 30 : 20 + (deeds - 9) % 10;
            due.is("as it was ahead of the last 8 of " + deeds, behindUndoing(deeds).reads(), first);
        }
        Supplier<LetterNeedles> behindLay = () -> {
            LetterNeedles x = Whole.busy();
            x.wipe();
            Due.writeAll(x, "mA;");
            x.lay();
            return x;
        };
        Supplier<LetterNeedles> behindBack = () -> {
            LetterNeedles x = Whole.busy();
            x.back();
            return x;
        };
        due.changesNothing("undo() behind lay()", behindLay, LetterNeedles::undo, LetterNeedles.NO);
        due.changesNothing("undo() behind back()", behindBack, LetterNeedles::undo, LetterNeedles.NO);
        due.changesNothing("back() behind lay()", behindLay, LetterNeedles::back, LetterNeedles.NO);
    }

    private static LetterNeedles behindKeeping(int times) {
        LetterNeedles x = Due.laid("mA;");
        for (int i = 0; i < times; i++) {
            x.send(20 + i);
            x.keep();
        }
        for (int i = 0; i < times; i++) x.back();
        x.send(29);
        return x;
    }

    private static void backIsRefused() {
        for (int times = 0; times <= 2; times++) {
            int kept = times;
            due.changesNothing("back() when all of " + times + " are", () -> behindKeeping(kept), LetterNeedles::back, LetterNeedles.NO);
        }
    }

    private static void fullIsRefused() {
        for (int letter : new int[] {32, 'c', ';', 126}) {
            due.changesNothing("the 201st letter, " + letter, Whole::full, x -> x.write(letter), LetterNeedles.FULL);
        }
        due.changesNothing("the ninth SEEN", Whole::full, x -> x.see(0, 31), LetterNeedles.FULL);
        due.changesNothing("the ninth SEEN, as one ahead", Whole::full, x -> x.see(20, 20), LetterNeedles.FULL);
        due.changesNothing("the ninth HEARD", Whole::full, x -> x.hear(0), LetterNeedles.FULL);
        due.changesNothing("the ninth HEARD, a MUDDLE", Whole::full, x -> x.hear(31), LetterNeedles.FULL);
        due.changesNothing("the third KEPT", Whole::full, LetterNeedles::keep, LetterNeedles.FULL);
    }

    /** What is refused comes neither behind what is there nor in place of it. */
    private static void fullStaysAsItWas() {
        LetterNeedles x = Whole.full();
        int canBe = x.canBe();
        int fits = x.fits();
        due.is("fits(): ABDEFGHI", fits, 1);
        for (int i = 0; i < 3; i++) {
            due.is("see", x.see(0, 31), LetterNeedles.FULL);
            due.is("hear", x.hear(19), LetterNeedles.FULL);
            due.is("write", x.write('x'), LetterNeedles.FULL);
            due.is("keep", x.keep(), LetterNeedles.FULL);
        }
        due.is("canBe()", x.canBe(), canBe);
        due.is("fits()", x.fits(), fits);
        due.is("fault()", x.fault(), LetterNeedles.NONE);
        due.is("forget(0)", x.forget(0), 8);
        due.is("forget(1)", x.forget(1), 8);
        due.is("see behind it", x.see(0, 31), 1);
        due.is("hear behind it", x.hear(19), 1);
        due.is("back() to the second KEPT", x.back(), 1);
        due.is("that one had a WIRE CUT", x.count(1), 1);
        due.is("keep() behind it", x.keep(), 2);
        due.is("keep() once more", x.keep(), LetterNeedles.FULL);
        x.back();
        due.is("back() to the first KEPT", x.back(), 0);
        due.is("that one had none CUT", x.count(1), 0);
        due.is("wipe()", x.wipe(), 200);
        due.is("write behind it", x.write('x'), 1);
    }

    private static void noneIsAnswered() {
        Supplier<LetterNeedles> line = busyWith("c0;mA;");
        due.changesNothing("fault()", line, LetterNeedles::fault, LetterNeedles.NONE);
        due.changesNothing("spelt(1, 2)", line, x -> x.spelt(1, 2), LetterNeedles.NONE);
        due.changesNothing("said(1, 1, 1, 2)", line, x -> x.said(1, 1, 1, 2), LetterNeedles.NONE);
        due.changesNothing("pace(0, 0)", line, x -> x.pace(0, 0), LetterNeedles.NONE);
        due.changesNothing("mending(0, 1, 1)", line, x -> x.mending(0, 1, 1), LetterNeedles.NONE);
        Supplier<LetterNeedles> whole = () -> {
            LetterNeedles x = Due.laid("mA;");
            x.send(5);
            x.see(20, 25);
            return x;
        };
        due.changesNothing("changing(0, 1, 1, 0)", whole, x -> x.changing(0, 1, 1, 0), LetterNeedles.NONE);
        due.changesNothing("changing(0, 1, 1, 1)", whole, x -> x.changing(0, 1, 1, 1), LetterNeedles.NONE);
        due.changesNothing("tries(0)", whole, x -> x.tries(0), LetterNeedles.NONE);
        due.changesNothing("tries(1)", whole, x -> x.tries(1), LetterNeedles.NONE);
    }

    private static List<ToIntFunction<LetterNeedles>> questions() {
        List<ToIntFunction<LetterNeedles>> all = new ArrayList<>(List.of(
            LetterNeedles::fault, LetterNeedles::reads, LetterNeedles::canBe, LetterNeedles::fits,
            x -> x.needle(1, 2), x -> x.wire(2, 1), x -> x.spelt(0, 5), x -> x.said(0, 2, 1, -1), x -> x.said(0, 1, 0, 5),
            x -> x.pace(0, 0), x -> x.clear(2), x -> x.like(30), x -> x.mending(0, 2, 3), x -> x.changing(0, 1, 1, 0),
            x -> x.order(1, 0), x -> x.tries(0), x -> x.duel(0, 4), x -> x.odds(5, 3, 0), x -> x.mean(0, 3, 1)));
        for (int z : new int[] {0, 2, 7, 86, 9999}) {
            all.add(x -> x.day(z, 60, 0));
            all.add(x -> x.day(z, 60, 2));
        }
        for (int what = 0; what < 10; what++) {
            int asked = what;
            all.add(x -> x.count(asked));
        }
        return all;
    }

    private static void questionsChangeNothing() {
        int number = 0;
        for (ToIntFunction<LetterNeedles> question : questions()) {
            due.holds("question " + number + " on a busy line changes nothing", Whole.isUnchangedBy(Whole::busy, question));
            due.holds("question " + number + " on a full one changes nothing", Whole.isUnchangedBy(Whole::full, question));
            number++;
        }
    }

    /** What is only thought for one answer leaves nothing behind for the next. */
    private static void questionsInAnyOrder() {
        List<ToIntFunction<LetterNeedles>> all = questions();
        LetterNeedles forth = Whole.busy();
        LetterNeedles backwards = Whole.busy();
        int[] first = new int[all.size()];
        int[] last = new int[all.size()];
        for (int i = 0; i < first.length; i++) first[i] = all.get(i).applyAsInt(forth);
        for (int i = first.length - 1; i >= 0; i--) last[i] = all.get(i).applyAsInt(backwards);
        due.are("asked backwards", last, first);
        for (int i = 0; i < first.length; i++) {
            due.is("question " + i + " asked alone", all.get(i).applyAsInt(Whole.busy()), first[i]);
        }
    }
}
