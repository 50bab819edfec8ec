import java.math.BigInteger;
import java.util.ArrayDeque;
import java.util.ArrayList;
import java.util.Arrays;
import java.util.HashMap;
import java.util.List;
import java.util.Map;
import java.util.regex.Matcher;
import java.util.regex.Pattern;

/**
 * The document once more, as slow and as near to its words as can be, for ModelTest: states are
 * copied for every thought, everything is tried, nothing is worked out ahead.
 */
final class Model {
    static final int BAD = -1, NO = -2, FULL = -3, NONE = -4;
    private static final String LETTERS = "ABDEFGHIKLMNOPRSTVWY";
    private static final String RIGHT_FIRST = "A04 B03 D14 E02 F13 G24 H01 I12 K23 L34";
    private static final String LEFT_FIRST = "M01 N12 O23 P34 R02 S13 T24 V03 W14 Y04";
    private static final Pattern ITEM =
        Pattern.compile("n[0-4],[0-5];|[ct][0-4];|j[0-3];|m[A-Z]{1,8};");
    /** By how the five stand, as figures: the SIGN. */
    private static final Map<String, Integer> SIGNS = signs();

    private static final class Needle {
        int kind;
        int stands;
        int got;

        Needle copy() {
            Needle n = new Needle();
            n.kind = kind;
            n.stands = stands;
            n.got = got;
            return n;
        }
    }

    private static final class State {
        Needle[] needles = new Needle[5];
        boolean[] cut = new boolean[5];
        boolean[] turned = new boolean[5];
        boolean[] touches = new boolean[5];

        State() {
            for (int p = 0; p < 5; p++) needles[p] = new Needle();
        }

        State copy() {
            State s = new State();
            for (int p = 0; p < 5; p++) s.needles[p] = needles[p].copy();
            s.cut = cut.clone();
            s.turned = turned.clone();
            s.touches = touches.clone();
            return s;
        }

        State atRest() {
            State s = copy();
            for (Needle n : s.needles) {
                n.stands = 0;
                n.got = 0;
            }
            return s;
        }

        int[] carried(int sign) {
            int[] bears = new int[5];
            for (int p = 0; p < 5; p++) {
                int given = patternOf(sign).charAt(p) - '0';
                bears[p] = cut[p] ? 0 : turned[p] ? flip(given) : given;
            }
            int[] carries = new int[5];
            for (int p = 0; p < 5; p++) {
                int right = 0;
                int left = 0;
                for (int q = 0; q < 5; q++) {
                    if (areTogether(p, q)) {
                        right += bears[q] == 1 ? 1 : 0;
                        left += bears[q] == 2 ? 1 : 0;
                    }
                }
                carries[p] = cut[p] || right == left ? 0 : right > left ? 1 : 2;
            }
            return carries;
        }

        boolean areTogether(int p, int q) {
            for (int i = Math.min(p, q); i < Math.max(p, q); i++) {
                if (!touches[i]) return false;
            }
            return true;
        }

        int beat(int sign) {
            int[] gets = carried(sign);
            for (int p = 4; p >= 0; p--) {
                Needle n = needles[p];
                boolean same = n.got == gets[p];
                if (n.kind == 0) n.stands = gets[p];
                if (n.kind == 1) n.stands = same ? gets[p] : 0;
                if (n.kind == 2) n.stands = gets[p] != 0 ? gets[p] : n.got;
                if (n.kind == 3) n.stands = gets[p] != 0 ? gets[p] : p > 0 ? gets[p - 1] : 0;
                if (n.kind == 4) n.stands = same ? flip(gets[p]) : 0;
                if (n.kind == 5 && gets[p] != 0) n.stands = gets[p];
            }
            for (int p = 0; p < 5; p++) needles[p].got = gets[p];
            return read();
        }

        int read() {
            StringBuilder b = new StringBuilder();
            for (Needle n : needles) b.append(n.stands);
            return SIGNS.getOrDefault(b.toString(), 31);
        }

        boolean canBeMended(int p) {
            return cut[p] || turned[p] || touches[p] || p > 0 && touches[p - 1];
        }

        void mend(int p) {
            cut[p] = false;
            turned[p] = false;
            touches[p] = false;
            if (p > 0) touches[p - 1] = false;
        }

        void change(int p, int q) {
            Needle n = needles[p];
            needles[p] = needles[q];
            needles[q] = n;
        }
    }

    private final StringBuilder text = new StringBuilder();
    private State state;
    private List<String> messages = new ArrayList<>();
    private final ArrayDeque<State> deeds = new ArrayDeque<>();
    private final ArrayDeque<State> kept = new ArrayDeque<>();
    private final List<int[]> seen = new ArrayList<>();
    private final List<Integer> heard = new ArrayList<>();

    Model() {
        text.append("n1,1;n3,2;j3;mQUAKER;mSLOUGH;mLATE;");
        lay();
        text.setLength(0);
    }

    private static Map<String, Integer> signs() {
        Map<String, Integer> signs = new HashMap<>();
        for (String one : RIGHT_FIRST.split(" ")) signs.put(pair(one, '1', '2'), LETTERS.indexOf(one.charAt(0)));
        for (String one : LEFT_FIRST.split(" ")) signs.put(pair(one, '2', '1'), LETTERS.indexOf(one.charAt(0)));
        for (int p = 0; p < 5; p++) {
            StringBuilder b = new StringBuilder("00000");
            b.setCharAt(p, '1');
            signs.put(b.toString(), 20 + p);
            b.setCharAt(p, '2');
            signs.put(b.toString(), 25 + p);
        }
        signs.put("00000", 30);
        return signs;
    }

    private static String pair(String letterAndPlaces, char first, char other) {
        StringBuilder b = new StringBuilder("00000");
        b.setCharAt(letterAndPlaces.charAt(1) - '0', first);
        b.setCharAt(letterAndPlaces.charAt(2) - '0', other);
        return b.toString();
    }

    private static String patternOf(int sign) {
        for (Map.Entry<String, Integer> e : SIGNS.entrySet()) {
            if (e.getValue() == sign) return e.getKey();
        }
        throw new IllegalArgumentException("no sign " + sign);
    }

    private static int flip(int way) {
        return way == 1 ? 2 : way == 2 ? 1 : 0;
    }

    private static boolean in(int n, int low, int high) {
        return low <= n && n <= high;
    }

    private boolean isMessage(int m) {
        return in(m, 0, messages.size() - 1);
    }

    private int signAt(int m, int k) {
        String letter = messages.get(m).substring(k, k + 1)
            .replace('C', 'K').replace('J', 'G').replace('Q', 'K')
            .replace('U', 'W').replace('X', 'S').replace('Z', 'S');
        return LETTERS.indexOf(letter);
    }

    private int size(int m) {
        return messages.get(m).length();
    }

    int write(int letter) {
        if (!in(letter, 32, 126)) return BAD;
        if (text.length() == 200) return FULL;
        text.append((char) letter);
        return text.length();
    }

    int wipe() {
        int was = text.length();
        text.setLength(0);
        return was;
    }

    int fault() {
        Matcher m = ITEM.matcher(text);
        int at = 0;
        int told = 0;
        while (at < text.length()) {
            m.region(at, text.length());
            if (!m.lookingAt()) return at;
            if (text.charAt(at) == 'm' && ++told == 7) return at;
            at = m.end();
        }
        return NONE;
    }

    int lay() {
        if (fault() != NONE || text.indexOf("m") < 0) return NO;
        state = new State();
        messages = new ArrayList<>();
        for (String item : text.toString().split(";")) {
            int p = item.charAt(1) - '0';
            switch (item.charAt(0)) {
                case 'n' -> state.needles[p].kind = item.charAt(3) - '0';
                case 'c' -> state.cut[p] = true;
                case 't' -> state.turned[p] = true;
                case 'j' -> state.touches[p] = true;
                default -> messages.add(item.substring(1));
            }
        }
        deeds.clear();
        kept.clear();
        seen.clear();
        heard.clear();
        return messages.size();
    }

    int needle(int place, int what) {
        if (!in(place, 0, 4) || !in(what, 0, 2)) return BAD;
        Needle n = state.needles[place];
        return what == 0 ? n.kind : what == 1 ? n.stands : n.got;
    }

    int wire(int p, int what) {
        if (!in(p, 0, 4) || !in(what, 0, 2)) return BAD;
        boolean[] row = what == 0 ? state.cut : what == 1 ? state.turned : state.touches;
        return row[p] ? 1 : 0;
    }

    int spelt(int m, int k) {
        if (!isMessage(m) || !in(k, -1, 7)) return BAD;
        if (k == -1) return size(m);
        return k < size(m) ? signAt(m, k) : NONE;
    }

    private void deed() {
        deeds.addLast(state.copy());
        if (deeds.size() > 8) deeds.removeFirst();
    }

    private static int many(boolean[] row) {
        int n = 0;
        for (boolean b : row) n += b ? 1 : 0;
        return n;
    }

    int send(int sign) {
        if (!in(sign, 0, 30)) return BAD;
        deed();
        return state.beat(sign);
    }

    int cut(int p) {
        if (!in(p, 0, 4)) return BAD;
        if (state.cut[p]) return NO;
        deed();
        state.cut[p] = true;
        return many(state.cut);
    }

    int turn(int p) {
        if (!in(p, 0, 4)) return BAD;
        deed();
        state.turned[p] = !state.turned[p];
        return many(state.turned);
    }

    int touch(int p) {
        if (!in(p, 0, 3)) return BAD;
        if (state.touches[p]) return NO;
        deed();
        state.touches[p] = true;
        return many(state.touches);
    }

    int mend(int p) {
        if (!in(p, 0, 4)) return BAD;
        if (!state.canBeMended(p)) return NO;
        deed();
        state.mend(p);
        int n = 0;
        for (int q = 0; q < 5; q++) n += state.cut[q] || state.turned[q] || state.touches[q] ? 1 : 0;
        return n;
    }

    int change(int p, int q) {
        if (!in(p, 0, 4) || !in(q, 0, 4) || p == q) return BAD;
        deed();
        state.change(p, q);
        return state.needles[p].kind;
    }

    int undo() {
        if (deeds.isEmpty()) return NO;
        state = deeds.removeLast();
        return deeds.size();
    }

    int reads() {
        return state.read();
    }

    private int[] readings(State on, int m, int r, int g) {
        State s = on.atRest();
        int[] read = new int[size(m)];
        for (int k = 0; k < read.length; k++) {
            for (int i = 0; i < r; i++) read[k] = s.beat(signAt(m, k));
            for (int i = 0; i < g; i++) s.beat(30);
        }
        return read;
    }

    private int right(State on, int m, int r, int g) {
        int[] read = readings(on, m, r, g);
        int n = 0;
        for (int k = 0; k < read.length; k++) n += read[k] == signAt(m, k) ? 1 : 0;
        return n;
    }

    private boolean isSaying(int m, int r, int g) {
        return isMessage(m) && in(r, 1, 3) && in(g, 0, 3);
    }

    int said(int m, int r, int g, int k) {
        if (!isSaying(m, r, g) || !in(k, -1, 7)) return BAD;
        if (k == -1) return right(state, m, r, g);
        return k < size(m) ? readings(state, m, r, g)[k] : NONE;
    }

    int pace(int m, int what) {
        if (!isMessage(m) || !in(what, 0, 1)) return BAD;
        int bestR = 99;
        int bestG = 99;
        for (int g = 0; g <= 3; g++) {
            for (int r = 3; r >= 1; r--) {
                boolean better = r + g < bestR + bestG || r + g == bestR + bestG && r < bestR;
                if (better && right(state, m, r, g) == size(m)) {
                    bestR = r;
                    bestG = g;
                }
            }
        }
        return bestR == 99 ? NONE : what == 0 ? bestR : bestG;
    }

    private static int sent(State on, int sign, int r) {
        State s = on.atRest();
        int read = s.read();
        for (int i = 0; i < r; i++) read = s.beat(sign);
        return read;
    }

    private static int clearOn(State on, int r) {
        int bits = 0;
        for (int sign = 0; sign < 30; sign++) bits |= sent(on, sign, r) == sign ? 1 << sign : 0;
        return bits;
    }

    int clear(int r) {
        return in(r, 1, 3) ? clearOn(state, r) : BAD;
    }

    int like(int sign) {
        if (!in(sign, 0, 30)) return BAD;
        int least = 0;
        while (sent(state, least, 1) != sent(state, sign, 1)) least++;
        return least;
    }

    int mending(int m, int r, int g) {
        if (!isSaying(m, r, g)) return BAD;
        int best = NONE;
        for (int set = 0; set < 32; set++) {
            State s = state.copy();
            for (int p = 4; p >= 0; p--) {
                if ((set >> p & 1) == 1 && s.canBeMended(p)) s.mend(p);
            }
            boolean fewer = best == NONE || Integer.bitCount(set) < Integer.bitCount(best);
            if (fewer && right(s, m, r, g) == size(m)) best = set;
        }
        return best;
    }

    int changing(int m, int r, int g, int what) {
        if (!isSaying(m, r, g) || !in(what, 0, 1)) return BAD;
        int best = right(state, m, r, g);
        int which = NONE;
        for (int two = 1; two < 35; two++) {
            int p = two / 10;
            int q = two % 10;
            if (p >= q || q > 4) continue;
            State s = state.copy();
            s.change(p, q);
            int n = right(s, m, r, g);
            if (n > best) {
                best = n;
                which = two;
            }
        }
        return which == NONE ? NONE : what == 0 ? which : best;
    }

    int order(int r, int k) {
        if (!in(r, 1, 3) || !in(k, -1, 4)) return BAD;
        int best = -1;
        int[] found = new int[5];
        for (int code = 0; code < 5 * 5 * 5 * 5 * 5; code++) {
            int[] places = {code / 625, code / 125 % 5, code / 25 % 5, code / 5 % 5, code % 5};
            if (Arrays.stream(places).distinct().count() < 5) continue;
            State s = state.copy();
            for (int p = 0; p < 5; p++) s.needles[p] = state.needles[places[p]].copy();
            int n = Integer.bitCount(clearOn(s, r) & 0xFFFFF);
            if (n > best) {
                best = n;
                found = places;
            }
        }
        return k == -1 ? best : found[k];
    }

    int see(int sign, int read) {
        if (!in(sign, 0, 29) || !in(read, 0, 31)) return BAD;
        if (seen.size() == 8) return FULL;
        seen.add(new int[] {sign, read});
        return seen.size();
    }

    private static State wrong(int thing) {
        State s = new State();
        if (in(thing, 0, 4)) s.cut[thing] = true;
        if (in(thing, 5, 9)) s.turned[thing - 5] = true;
        if (in(thing, 10, 13)) s.touches[thing - 10] = true;
        if (in(thing, 14, 18)) s.needles[thing - 14].kind = 1;
        if (in(thing, 19, 23)) s.needles[thing - 19].kind = 3;
        return s;
    }

    int canBe() {
        int bits = 0;
        for (int thing = 0; thing <= 24; thing++) {
            boolean isSo = true;
            for (int[] one : seen) isSo &= sent(wrong(thing), one[0], 1) == one[1];
            bits |= isSo ? 1 << thing : 0;
        }
        return bits;
    }

    int tries(int what) {
        if (!in(what, 0, 1)) return BAD;
        int can = canBe();
        if (Integer.bitCount(can) < 2) return NONE;
        int best = -1;
        int least = 99;
        for (int sign = 0; sign < 30; sign++) {
            Map<Integer, Integer> parts = new HashMap<>();
            for (int thing = 0; thing <= 24; thing++) {
                if ((can >> thing & 1) == 1) parts.merge(sent(wrong(thing), sign, 1), 1, Integer::sum);
            }
            int greatest = parts.values().stream().mapToInt(Integer::intValue).max().getAsInt();
            if (greatest < least) {
                least = greatest;
                best = sign;
            }
        }
        return what == 0 ? best : least;
    }

    int hear(int sign) {
        if (!in(sign, 0, 19) && sign != 31) return BAD;
        if (heard.size() == 8) return FULL;
        heard.add(sign);
        return heard.size();
    }

    int fits() {
        int bits = 0;
        for (int m = 0; m < messages.size(); m++) {
            boolean isSo = size(m) == heard.size();
            for (int k = 0; isSo && k < heard.size(); k++) {
                isSo = heard.get(k) == 31 || heard.get(k) == signAt(m, k);
            }
            bits |= isSo ? 1 << m : 0;
        }
        return bits;
    }

    int forget(int what) {
        if (!in(what, 0, 1)) return BAD;
        List<?> row = what == 0 ? seen : heard;
        int was = row.size();
        row.clear();
        return was;
    }

    int duel(int m, int n) {
        if (!isMessage(m) || !in(n, 0, 4)) return BAD;
        return turns(state, m, n, true);
    }

    private int turns(State on, int m, int left, boolean cuts) {
        if (left == 0) return right(on, m, 1, 1);
        int best = turns(on, m, left - 1, !cuts);
        for (int p = 0; p < 5; p++) {
            State s = on.copy();
            if (cuts ? s.cut[p] : !s.canBeMended(p)) continue;
            if (cuts) s.cut[p] = true;
            else s.mend(p);
            int n = turns(s, m, left - 1, !cuts);
            best = cuts ? Math.min(best, n) : Math.max(best, n);
        }
        return best;
    }

    /** Of 100000, over every way in which the five can be slack (each ten tenths). */
    private long chances(int sign, int x) {
        State s = state.atRest();
        s.beat(sign);
        long sum = 0;
        for (int slack = 0; slack < 32; slack++) {
            State t = s.copy();
            long weight = 1;
            for (int p = 0; p < 5; p++) {
                boolean slips = (slack >> p & 1) == 1;
                weight *= slips ? x : 10 - x;
                if (slips) t.needles[p].stands = 0;
            }
            if (t.read() == sign) sum += weight;
        }
        return sum;
    }

    private static int term(long above, int part) {
        BigInteger a = BigInteger.valueOf(above);
        BigInteger b = BigInteger.valueOf(100000);
        BigInteger d = a.gcd(b);
        return (part == 0 ? a : b).divide(d).intValueExact();
    }

    int odds(int sign, int x, int part) {
        if (!in(sign, 0, 29) || !in(x, 0, 10) || !in(part, 0, 1)) return BAD;
        return term(chances(sign, x), part);
    }

    int mean(int m, int x, int part) {
        if (!isMessage(m) || !in(x, 0, 10) || !in(part, 0, 1)) return BAD;
        long sum = 0;
        for (int k = 0; k < size(m); k++) sum += chances(signAt(m, k), x);
        return term(sum, part);
    }

    int day(int z, int n, int what) {
        if (!in(z, 0, 9999) || !in(n, 1, 60) || !in(what, 0, 2)) return BAD;
        State s = state.copy();
        int right = 0;
        int muddles = 0;
        for (int k = 0; k < n; k++) {
            BigInteger x = BigInteger.valueOf(7919).multiply(BigInteger.valueOf(z))
                .add(BigInteger.valueOf(6151L * k)).add(BigInteger.ONE);
            int draw = x.multiply(x).mod(BigInteger.valueOf(65521)).intValueExact();
            int p = draw / 64 % 5;
            switch (draw % 8) {
                case 5 -> s.cut[p] = true;
                case 6 -> {
                    if (s.canBeMended(p)) s.mend(p);
                }
                case 7 -> s.change(p, p == 4 ? 0 : p + 1);
                default -> {
                    int sign = draw / 8 % 31;
                    int read = s.beat(sign);
                    if (read == sign) right++;
                    if (read == 31) muddles++;
                }
            }
        }
        return what == 0 ? right : what == 1 ? muddles : many(s.cut);
    }

    int keep() {
        if (kept.size() == 2) return FULL;
        kept.addLast(state.copy());
        return kept.size();
    }

    int back() {
        if (kept.isEmpty()) return NO;
        state = kept.removeLast();
        deeds.clear();
        return kept.size();
    }

    int count(int what) {
        int upright = 0;
        for (Needle n : state.needles) upright += n.stands == 0 ? 1 : 0;
        int[] all = {messages.size(), many(state.cut), many(state.turned), many(state.touches), 5 - upright,
            deeds.size(), kept.size(), seen.size(), heard.size(), text.length()};
        return in(what, 0, 9) ? all[what] : BAD;
    }
}
