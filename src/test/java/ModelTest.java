import java.util.Random;

/** Runs of calls drawn from fixed seeds, on the class and on the Model: every answer must be the same. */
public final class ModelTest {
    private static final int RUNS = 400;
    private static final int CALLS = 512;
    private static final int DUELLED_LINES = 1000;
    private static final int CALL_KINDS = 35;
    private static final int[] FAR = {Integer.MIN_VALUE, Integer.MAX_VALUE, -5, -4, -3, -2, 64, 100, 1 << 16};

    private final Random random;
    private final LetterNeedles real = new LetterNeedles();
    private final Model model = new Model();
    private final StringBuilder trace = new StringBuilder();

    private ModelTest(long seed) {
        random = new Random(seed);
    }

    public static void main(String[] args) {
        Due all = new Due();
        for (int run = 0; run < RUNS; run++) {
            ModelTest test = new ModelTest(20261118L + run);
            all.holds("run " + run + " ends as the model does", test.agrees(run));
        }
        for (int run = 0; run < DUELLED_LINES; run++) {
            all.holds("line " + run + " is duelled for as by the model", new ModelTest(36000L + run).duelsAgree(run));
        }
        all.end();
    }

    /** Long turns on lines of few faults, where most is won and lost: the runs above come to few of them. */
    private boolean duelsAgree(int run) {
        StringBuilder text = new StringBuilder();
        int faults = 1 + random.nextInt(3);
        for (int i = 0; i < faults; i++) {
            char fault = "ctjjn".charAt(random.nextInt(5));
            text.append(fault).append(random.nextInt(fault == 'j' ? 4 : 5));
            if (fault == 'n') text.append(',').append(random.nextInt(6));
            text.append(';');
        }
        addMessage(text);
        Due.writeAll(real, text.toString());
        for (int i = 0; i < text.length(); i++) model.write(text.charAt(i));
        if (!same(text + " lay", real.lay(), model.lay(), run)) return false;
        for (int n = 0; n <= 4; n++) {
            if (!same("duel 0 " + n, real.duel(0, n), model.duel(0, n), run)) return false;
        }
        return true;
    }

    private boolean agrees(int run) {
        int calls = 0;
        if (random.nextInt(5) > 0) {
            String text = goodText();
            for (int i = 0; i < text.length(); i++) {
                if (!same("write", real.write(text.charAt(i)), model.write(text.charAt(i)), run)) return false;
            }
            if (!same("lay", real.lay(), model.lay(), run)) return false;
            calls = text.length() + 1;
        }
        // some runs bend the line much, some nearly not at all
        int deeds = 1 + random.nextInt(4);
        for (; calls < CALLS; calls++) {
            int kind = random.nextInt(deeds) > 0 ? 7 + random.nextInt(8) : random.nextInt(CALL_KINDS);
            if (!one(kind, run)) return false;
        }
        return true;
    }

    private boolean same(String call, int got, int want, int run) {
        trace.append(call).append(' ');
        if (got == want) return true;
        System.out.println("run " + run + ": " + call + " answered " + got + ", the model " + want);
        System.out.println("  behind: " + trace.substring(Math.max(0, trace.length() - 3000)));
        return false;
    }

    /** A number from low to high as a rule, now and then one just outside or far off. */
    private int pick(int low, int high) {
        int way = random.nextInt(40);
        if (way == 0) return low - 1;
        if (way == 1) return high + 1;
        if (way == 2) return FAR[random.nextInt(FAR.length)];
        return low + random.nextInt(high - low + 1);
    }

    private int message() {
        return pick(0, Math.max(0, model.count(0) - 1));
    }

    private String goodText() {
        StringBuilder b = new StringBuilder();
        int items = 1 + random.nextInt(12);
        int messages = 0;
        for (int i = 0; i < items; i++) {
            int kind = random.nextInt(8);
            if (kind < 3) b.append('n').append(random.nextInt(5)).append(',').append(random.nextInt(6)).append(';');
            else if (kind == 3) b.append('c').append(random.nextInt(5)).append(';');
            else if (kind == 4) b.append('t').append(random.nextInt(5)).append(';');
            else if (kind == 5) b.append('j').append(random.nextInt(4)).append(';');
            else if (messages++ < 5) addMessage(b);
        }
        addMessage(b);
        return b.toString();
    }

    private void addMessage(StringBuilder b) {
        b.append('m');
        int letters = 1 + random.nextInt(8);
        for (int i = 0; i < letters; i++) b.append((char) ('A' + random.nextInt(26)));
        b.append(';');
    }

    private boolean one(int kind, int run) {
        if (kind < 7) return line(kind, run);
        if (kind < 15) return deed(kind, run);
        if (kind < 22) return wouldBeRead(kind, run);
        return others(kind, run);
    }

    private boolean line(int kind, int run) {
        int a;
        int b;
        switch (kind) {
            case 0:
                String letters = "nctjm,;012345ABZ";
                a = random.nextInt(12) > 0 ? letters.charAt(random.nextInt(letters.length())) : pick(32, 126);
                return same("write " + a, real.write(a), model.write(a), run);
            case 1:
                if (random.nextInt(4) > 0) return same("count 9", real.count(9), model.count(9), run);
                return same("wipe", real.wipe(), model.wipe(), run);
            case 2:
                return same("fault", real.fault(), model.fault(), run);
            case 3:
                if (random.nextInt(6) > 0) return same("reads", real.reads(), model.reads(), run);
                return same("lay", real.lay(), model.lay(), run);
            case 4:
                a = pick(0, 4);
                b = pick(0, 2);
                return same("needle " + a + " " + b, real.needle(a, b), model.needle(a, b), run);
            case 5:
                a = pick(0, 4);
                b = pick(0, 2);
                return same("wire " + a + " " + b, real.wire(a, b), model.wire(a, b), run);
            default:
                a = message();
                b = pick(-1, 7);
                return same("spelt " + a + " " + b, real.spelt(a, b), model.spelt(a, b), run);
        }
    }

    private boolean deed(int kind, int run) {
        int a = pick(0, 4);
        int b = pick(0, 4);
        int sign = pick(0, 30);
        switch (kind) {
            case 7: return same("cut " + a, real.cut(a), model.cut(a), run);
            case 8: return same("turn " + a, real.turn(a), model.turn(a), run);
            case 9: return same("touch " + a, real.touch(a), model.touch(a), run);
            case 10: return same("mend " + a, real.mend(a), model.mend(a), run);
            case 11: return same("change " + a + " " + b, real.change(a, b), model.change(a, b), run);
            case 12: return same("undo", real.undo(), model.undo(), run);
            case 13: return same("mend " + a, real.mend(a), model.mend(a), run);
            default: return same("send " + sign, real.send(sign), model.send(sign), run);
        }
    }

    private boolean wouldBeRead(int kind, int run) {
        int m = message();
        int r = pick(1, 3);
        int g = pick(0, 3);
        int k = pick(-1, 7);
        int what = pick(0, 1);
        int sign = pick(0, 30);
        int place = pick(-1, 4);
        String how = m + " " + r + " " + g + " ";
        switch (kind) {
            case 15: return same("said " + how + k, real.said(m, r, g, k), model.said(m, r, g, k), run);
            case 16: return same("pace " + m + " " + what, real.pace(m, what), model.pace(m, what), run);
            case 17: return same("clear " + r, real.clear(r), model.clear(r), run);
            case 18: return same("like " + sign, real.like(sign), model.like(sign), run);
            case 19: return same("mending " + how, real.mending(m, r, g), model.mending(m, r, g), run);
            case 20:
                return same("changing " + how + what, real.changing(m, r, g, what), model.changing(m, r, g, what), run);
            default:
                if (random.nextInt(4) > 0) return same("reads", real.reads(), model.reads(), run);
                return same("order " + r + " " + place, real.order(r, place), model.order(r, place), run);
        }
    }

    private boolean others(int kind, int run) {
        int what = pick(0, 1);
        int m = message();
        int x = pick(0, 10);
        int sign;
        int n;
        switch (kind) {
            case 22: return sees(run);
            case 23: return same("canBe", real.canBe(), model.canBe(), run);
            case 24: return same("tries " + what, real.tries(what), model.tries(what), run);
            case 25: return hears(m, run);
            case 26: return same("fits", real.fits(), model.fits(), run);
            case 27:
                return same("forget " + what, real.forget(what), model.forget(what), run);
            case 28:
                n = pick(0, 4);
                return same("duel " + m + " " + n, real.duel(m, n), model.duel(m, n), run);
            case 29:
                sign = pick(0, 29);
                return same("odds " + sign + " " + x + " " + what, real.odds(sign, x, what), model.odds(sign, x, what), run);
            case 30:
                return same("mean " + m + " " + x + " " + what, real.mean(m, x, what), model.mean(m, x, what), run);
            case 31:
                int z = pick(0, 9999);
                n = pick(1, 60);
                int answer = pick(0, 2);
                return same("day " + z + " " + n + " " + answer, real.day(z, n, answer), model.day(z, n, answer), run);
            case 32: return same("keep", real.keep(), model.keep(), run);
            case 33: return same("back", real.back(), model.back(), run);
            default:
                int number = pick(0, 9);
                return same("count " + number, real.count(number), model.count(number), run);
        }
    }

    /** What a line with one thing wrong would show, so that not all is ruled out at once. */
    private boolean sees(int run) {
        int sign = pick(0, 29);
        int read = random.nextInt(3) == 0 ? pick(0, 31) : sign;
        return same("see " + sign + " " + read, real.see(sign, read), model.see(sign, read), run);
    }

    private boolean hears(int message, int run) {
        int next = model.spelt(message, Math.min(7, model.count(8)));
        int sign = random.nextInt(8) == 0 ? pick(0, 19) : next < 0 || random.nextInt(3) == 0 ? 31 : next;
        return same("hear " + sign, real.hear(sign), model.hear(sign), run);
    }
}
