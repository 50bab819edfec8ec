import java.util.ArrayList;
import java.util.List;
import java.util.function.Supplier;

/**
 * "BAD: a number is none that is told (MESSAGES: such as there are)": of every number of every call the last ones
 * that are told and the first ones that are not, at both ends; "Of several the first": BAD ahead of NO, NONE and
 * FULL; "nothing changes then".
 */
public final class NumbersTest {
    private static final Due due = new Due();

    private interface Call {
        int on(LetterNeedles x, int[] given);
    }

    /** A call, numbers for it that are told, and from where to where each of them goes. */
    private record Asked(String name, Call call, int[] fine, int[] low, int[] high) {
    }

    public static void main(String[] args) {
        bothEnds("busy", Whole::busy, 2);
        bothEnds("new", LetterNeedles::new, 2);
        bothEnds("one MESSAGE", () -> Due.laid("mA;"), 0);
        bothEnds("six MESSAGES", () -> Due.laid("mA;mB;mD;mE;mF;mG;"), 5);
        allAtOnce();
        messagesOfTheLineLaidLast();
        hearsLettersAndMuddles();
        placesAlike();
        badAheadOfFull();
        badAheadOfNo();
        badAheadOfNone();
        due.end();
    }

    private static int[] row(int... numbers) {
        return numbers;
    }

    private static List<Asked> allCalls(int last) {
        List<Asked> all = new ArrayList<>();
        all.add(new Asked("write", (x, a) -> x.write(a[0]), row(65), row(32), row(126)));
        all.add(new Asked("needle", (x, a) -> x.needle(a[0], a[1]), row(2, 1), row(0, 0), row(4, 2)));
        all.add(new Asked("wire", (x, a) -> x.wire(a[0], a[1]), row(2, 1), row(0, 0), row(4, 2)));
        all.add(new Asked("spelt", (x, a) -> x.spelt(a[0], a[1]), row(0, 0), row(0, -1), row(last, 7)));
        all.add(new Asked("send", (x, a) -> x.send(a[0]), row(5), row(0), row(30)));
        all.add(new Asked("cut", (x, a) -> x.cut(a[0]), row(2), row(0), row(4)));
        all.add(new Asked("turn", (x, a) -> x.turn(a[0]), row(2), row(0), row(4)));
        all.add(new Asked("touch", (x, a) -> x.touch(a[0]), row(1), row(0), row(3)));
        all.add(new Asked("mend", (x, a) -> x.mend(a[0]), row(2), row(0), row(4)));
        all.add(new Asked("change, the first", (x, a) -> x.change(a[0], 2), row(1), row(0), row(4)));
        all.add(new Asked("change, the second", (x, a) -> x.change(2, a[0]), row(1), row(0), row(4)));
        all.add(new Asked("said", (x, a) -> x.said(a[0], a[1], a[2], a[3]), row(0, 2, 1, 0), row(0, 1, 0, -1), row(last, 3, 3, 7)));
        all.add(new Asked("pace", (x, a) -> x.pace(a[0], a[1]), row(0, 1), row(0, 0), row(last, 1)));
        all.add(new Asked("clear", (x, a) -> x.clear(a[0]), row(2), row(1), row(3)));
        all.add(new Asked("like", (x, a) -> x.like(a[0]), row(5), row(0), row(30)));
        all.add(new Asked("mending", (x, a) -> x.mending(a[0], a[1], a[2]), row(0, 2, 1), row(0, 1, 0), row(last, 3, 3)));
        all.add(new Asked("changing", (x, a) -> x.changing(a[0], a[1], a[2], a[3]), row(0, 2, 1, 0), row(0, 1, 0, 0), row(last, 3, 3, 1)));
        all.add(new Asked("order", (x, a) -> x.order(a[0], a[1]), row(2, 0), row(1, -1), row(3, 4)));
        all.add(new Asked("see", (x, a) -> x.see(a[0], a[1]), row(5, 5), row(0, 0), row(29, 31)));
        all.add(new Asked("tries", (x, a) -> x.tries(a[0]), row(0), row(0), row(1)));
        all.add(new Asked("hear", (x, a) -> x.hear(a[0]), row(5), row(0), row(19)));
        all.add(new Asked("forget", (x, a) -> x.forget(a[0]), row(0), row(0), row(1)));
        all.add(new Asked("duel", (x, a) -> x.duel(a[0], a[1]), row(0, 1), row(0, 0), row(last, 4)));
        all.add(new Asked("odds", (x, a) -> x.odds(a[0], a[1], a[2]), row(5, 5, 0), row(0, 0, 0), row(29, 10, 1)));
        all.add(new Asked("mean", (x, a) -> x.mean(a[0], a[1], a[2]), row(0, 5, 0), row(0, 0, 0), row(last, 10, 1)));
        all.add(new Asked("day", (x, a) -> x.day(a[0], a[1], a[2]), row(5, 5, 0), row(0, 1, 0), row(9999, 60, 2)));
        all.add(new Asked("count", (x, a) -> x.count(a[0]), row(5), row(0), row(9)));
        return all;
    }

    private static int[] with(int[] fine, int i, int number) {
        int[] given = fine.clone();
        given[i] = number;
        return given;
    }

    private static void bothEnds(String what, Supplier<LetterNeedles> made, int lastMessage) {
        for (Asked a : allCalls(lastMessage)) {
            for (int i = 0; i < a.fine.length; i++) {
                String name = what + ": " + a.name + ", number " + i + " = ";
                for (int number : row(a.low[i], a.high[i])) {
                    due.holds(name + number + " is told", a.call.on(made.get(), with(a.fine, i, number)) != LetterNeedles.BAD);
                }
                for (int number : row(a.low[i] - 1, a.high[i] + 1, Integer.MIN_VALUE, Integer.MAX_VALUE)) {
                    int[] given = with(a.fine, i, number);
                    due.changesNothing(name + number, made, x -> a.call.on(x, given), LetterNeedles.BAD);
                }
            }
        }
    }

    /** All of them wrong are no less BAD than one, whichever is looked at first. */
    private static void allAtOnce() {
        for (Asked a : allCalls(2)) {
            int[] below = a.low.clone();
            int[] above = a.high.clone();
            for (int i = 0; i < below.length; i++) {
                below[i]--;
                above[i]++;
            }
            due.changesNothing(a.name + ", all too small", Whole::busy, x -> a.call.on(x, below), LetterNeedles.BAD);
            due.changesNothing(a.name + ", all too large", Whole::busy, x -> a.call.on(x, above), LetterNeedles.BAD);
        }
    }

    private static void messagesOfTheLineLaidLast() {
        LetterNeedles x = Due.laid("mA;mB;mD;mE;mF;mG;");
        due.is("six: spelt(5, -1)", x.spelt(5, -1), 1);
        x.wipe();
        Due.writeAll(x, "mAB;");
        due.is("written, not LAID: spelt(5, -1)", x.spelt(5, -1), 1);
        x.lay();
        due.is("one: spelt(0, -1)", x.spelt(0, -1), 2);
        for (int message = 1; message < 6; message++) {
            due.is("one: spelt", x.spelt(message, -1), LetterNeedles.BAD);
            due.is("one: said", x.said(message, 1, 0, -1), LetterNeedles.BAD);
            due.is("one: pace", x.pace(message, 0), LetterNeedles.BAD);
            due.is("one: mending", x.mending(message, 1, 0), LetterNeedles.BAD);
            due.is("one: changing", x.changing(message, 1, 0, 0), LetterNeedles.BAD);
            due.is("one: duel", x.duel(message, 0), LetterNeedles.BAD);
            due.is("one: mean", x.mean(message, 0, 0), LetterNeedles.BAD);
        }
    }

    private static void hearsLettersAndMuddles() {
        for (int sign = -2; sign <= 34; sign++) {
            int given = sign;
            boolean isTold = sign >= 0 && sign <= 19 || sign == 31;
            due.is("hear(" + sign + ")", new LetterNeedles().hear(given), isTold ? 1 : LetterNeedles.BAD);
            if (!isTold) due.changesNothing("hear(" + sign + ")", Whole::busy, x -> x.hear(given), LetterNeedles.BAD);
        }
    }

    private static void placesAlike() {
        for (int p = 0; p < 5; p++) {
            int place = p;
            due.changesNothing("change of " + p + " for itself", Whole::busy, x -> x.change(place, place), LetterNeedles.BAD);
        }
        due.changesNothing("change of -1 for itself", Whole::busy, x -> x.change(-1, -1), LetterNeedles.BAD);
        due.changesNothing("change of 5 for itself", Whole::busy, x -> x.change(5, 5), LetterNeedles.BAD);
    }

    private static void badAheadOfFull() {
        due.changesNothing("full: write(31)", Whole::full, x -> x.write(31), LetterNeedles.BAD);
        due.changesNothing("full: write(127)", Whole::full, x -> x.write(127), LetterNeedles.BAD);
        due.changesNothing("full: see(-1, 0)", Whole::full, x -> x.see(-1, 0), LetterNeedles.BAD);
        due.changesNothing("full: see(30, 0)", Whole::full, x -> x.see(30, 0), LetterNeedles.BAD);
        due.changesNothing("full: see(0, -1)", Whole::full, x -> x.see(0, -1), LetterNeedles.BAD);
        due.changesNothing("full: see(0, 32)", Whole::full, x -> x.see(0, 32), LetterNeedles.BAD);
        for (int sign : row(-1, 20, 30, 32)) {
            due.changesNothing("full: hear(" + sign + ")", Whole::full, x -> x.hear(sign), LetterNeedles.BAD);
        }
    }

    /** Lines on which every number that is told would be answered by NO. */
    private static void badAheadOfNo() {
        Supplier<LetterNeedles> allCut = () -> Due.laid("c0;c1;c2;c3;c4;mA;");
        Supplier<LetterNeedles> allTouch = () -> Due.laid("j0;j1;j2;j3;mA;");
        Supplier<LetterNeedles> whole = () -> Due.laid("mA;");
        for (int p = 0; p < 5; p++) {
            int wire = p;
            due.changesNothing("all are CUT: cut(" + p + ")", allCut, x -> x.cut(wire), LetterNeedles.NO);
            due.changesNothing("nothing to mend: mend(" + p + ")", whole, x -> x.mend(wire), LetterNeedles.NO);
            int answer = p < 4 ? LetterNeedles.NO : LetterNeedles.BAD;
            due.changesNothing("all TOUCH: touch(" + p + ")", allTouch, x -> x.touch(wire), answer);
        }
        for (int p : row(-1, 5)) {
            due.changesNothing("all are CUT: cut(" + p + ")", allCut, x -> x.cut(p), LetterNeedles.BAD);
            due.changesNothing("nothing to mend: mend(" + p + ")", whole, x -> x.mend(p), LetterNeedles.BAD);
            due.changesNothing("all TOUCH: touch(" + p + ")", allTouch, x -> x.touch(p), LetterNeedles.BAD);
        }
    }

    /** Lines on which every number that is told would be answered by NONE. */
    private static void badAheadOfNone() {
        Supplier<LetterNeedles> none = () -> Due.laid("n0,4;n1,4;n2,4;n3,4;n4,4;mA;");
        due.is("spelt(0, 1)", none.get().spelt(0, 1), LetterNeedles.NONE);
        due.changesNothing("spelt(0, 8)", none, x -> x.spelt(0, 8), LetterNeedles.BAD);
        due.changesNothing("spelt(1, 1)", none, x -> x.spelt(1, 1), LetterNeedles.BAD);
        due.is("said(0, 1, 0, 1)", none.get().said(0, 1, 0, 1), LetterNeedles.NONE);
        int[][] sayings = {{-1, 1, 0}, {1, 1, 0}, {0, 0, 0}, {0, 4, 0}, {0, 1, -1}, {0, 1, 4}};
        for (int[] s : sayings) {
            String with = "(" + s[0] + ", " + s[1] + ", " + s[2] + ", ..)";
            due.changesNothing("none: said" + with, none, x -> x.said(s[0], s[1], s[2], 1), LetterNeedles.BAD);
            due.changesNothing("none: mending" + with, none, x -> x.mending(s[0], s[1], s[2]), LetterNeedles.BAD);
            due.changesNothing("none: changing" + with, none, x -> x.changing(s[0], s[1], s[2], 0), LetterNeedles.BAD);
        }
        due.changesNothing("said(0, 1, 0, 8)", none, x -> x.said(0, 1, 0, 8), LetterNeedles.BAD);
        due.is("mending(0, 1, 0)", none.get().mending(0, 1, 0), LetterNeedles.NONE);
        due.is("pace(0, 0)", none.get().pace(0, 0), LetterNeedles.NONE);
        due.is("changing(0, 1, 0, 0)", none.get().changing(0, 1, 0, 0), LetterNeedles.NONE);
        Supplier<LetterNeedles> oneLeft = () -> {
            LetterNeedles x = Due.laid("mA;");
            x.see(20, 25);
            return x;
        };
        due.is("one is left: tries(0)", oneLeft.get().tries(0), LetterNeedles.NONE);
        for (int what : row(-1, 2)) {
            due.changesNothing("none: pace(0, " + what + ")", none, x -> x.pace(0, what), LetterNeedles.BAD);
            due.changesNothing("none: changing(0, 1, 0, " + what + ")", none, x -> x.changing(0, 1, 0, what), LetterNeedles.BAD);
            due.changesNothing("one is left: tries(" + what + ")", oneLeft, x -> x.tries(what), LetterNeedles.BAD);
        }
        due.changesNothing("none: pace(-1, 0)", none, x -> x.pace(-1, 0), LetterNeedles.BAD);
        due.changesNothing("none: pace(1, 0)", none, x -> x.pace(1, 0), LetterNeedles.BAD);
    }
}
