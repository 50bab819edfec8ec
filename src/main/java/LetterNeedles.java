import java.util.Arrays;

/** A telegraph of five needles: its line, its messages, and what is read by them. */
public final class LetterNeedles {
    public static final int BAD = -1, NO = -2, FULL = -3, NONE = -4;

    private static final int PLACES = 5;
    private static final int LAST_PLACE = 4;
    private static final int LAST_TOUCHING = 3;
    private static final int LAST_KIND = 5;

    private static final int PLAIN = 0, STIFF = 1, LAZY = 2, LED = 3, CONTRARY = 4, STUCK = 5;
    private static final int UPRIGHT = 0, RIGHT = 1, LEFT = 2;

    private static final int LETTERS = 20;
    private static final int RIGHT_FIGURES = 20, LEFT_FIGURES = 25;
    private static final int NOTHING = 30, MUDDLE = 31;
    private static final int LAST_POINTING = 29;

    private static final int LONGEST_TEXT = 200;
    private static final int MOST_MESSAGES = 6;
    private static final int LONGEST_MESSAGE = 8;
    private static final int MOST_UNDONE = 8;
    private static final int MOST_KEPT = 2;
    private static final int MOST_SEEN = 8;
    private static final int MOST_HEARD = 8;

    private static final int MOST_BEATS = 3;
    private static final int MOST_GAP = 3;
    private static final int MOST_TURNS = 4;
    private static final int ALL_CHANCES = 100000;

    private static final String FIRST_TEXT = "n1,1;n3,2;j3;mQUAKER;mSLOUGH;mLATE;";

    /** By SIGN, then by PLACE: as what the NEEDLE there stands. */
    private static final int[] POINTING = {
        1, 0, 0, 0, 2, // A
        1, 0, 0, 2, 0, // B
        0, 1, 0, 0, 2, // D
        1, 0, 2, 0, 0, // E
        0, 1, 0, 2, 0, // F
        0, 0, 1, 0, 2, // G
        1, 2, 0, 0, 0, // H
        0, 1, 2, 0, 0, // I
        0, 0, 1, 2, 0, // K
        0, 0, 0, 1, 2, // L
        2, 1, 0, 0, 0, // M
        0, 2, 1, 0, 0, // N
        0, 0, 2, 1, 0, // O
        0, 0, 0, 2, 1, // P
        2, 0, 1, 0, 0, // R
        0, 2, 0, 1, 0, // S
        0, 0, 2, 0, 1, // T
        2, 0, 0, 1, 0, // V
        0, 2, 0, 0, 1, // W
        2, 0, 0, 0, 1, // Y
        1, 0, 0, 0, 0,
        0, 1, 0, 0, 0,
        0, 0, 1, 0, 0,
        0, 0, 0, 1, 0,
        0, 0, 0, 0, 1,
        2, 0, 0, 0, 0,
        0, 2, 0, 0, 0,
        0, 0, 2, 0, 0,
        0, 0, 0, 2, 0,
        0, 0, 0, 0, 2,
        0, 0, 0, 0, 0, // NOTHING
    };

    /** The letter by the PLACE of the one to the right, then of the one to the left. */
    private static final int[] LETTER_BETWEEN = {
        31, 6, 3, 1, 0,
        10, 31, 7, 4, 2,
        14, 11, 31, 8, 5,
        17, 15, 12, 31, 9,
        19, 18, 16, 13, 31,
    };

    /** The SIGN by which each of the letters A to Z is SPELT. */
    private static final int[] SPELLING = {
        0, 1, 8, 2, 3, 4, 5, 6, 7, 5, 8, 9, 10,
        11, 12, 13, 8, 14, 15, 16, 18, 17, 18, 15, 19, 15,
    };

    private final Script script = new Script();
    private final Messages messages = new Messages();
    private final Line line = new Line();
    /** For all that only would be: the line itself is never touched for an answer. */
    private final Line trial = new Line();
    private final Past past = new Past();
    private final Suspects suspects = new Suspects();
    private final Hearing hearing = new Hearing();
    private final Contest contest = new Contest();
    private final Arrangement arrangement = new Arrangement();

    public LetterNeedles() {
        for (int i = 0; i < FIRST_TEXT.length(); i++) {
            script.append(FIRST_TEXT.charAt(i));
        }
        layScript();
        script.empty();
    }

    // ---- lines

    public int write(int letter) {
        if (!within(letter, 32, 126)) {
            return BAD;
        }
        if (script.length >= LONGEST_TEXT) {
            return FULL;
        }
        script.append((char) letter);
        return script.length;
    }

    public int wipe() {
        return script.empty();
    }

    public int fault() {
        return script.firstFault();
    }

    public int lay() {
        if (script.firstFault() != NONE || !script.tellsMessage()) {
            return NO;
        }
        layScript();
        return messages.many;
    }

    public int needle(int place, int what) {
        if (!isPlace(place) || !within(what, 0, 2)) {
            return BAD;
        }
        if (what == 0) {
            return line.kinds[place];
        }
        return what == 1 ? line.stands[place] : line.got[place];
    }

    public int wire(int p, int what) {
        if (!isPlace(p) || !within(what, 0, 2)) {
            return BAD;
        }
        if (what == 0) {
            return bitAt(line.cutWires, p);
        }
        return bitAt(what == 1 ? line.turnedWires : line.touching, p);
    }

    public int spelt(int message, int k) {
        if (!isMessage(message) || !within(k, -1, LONGEST_MESSAGE - 1)) {
            return BAD;
        }
        if (k == -1) {
            return messages.lengthOf(message);
        }
        return k < messages.lengthOf(message) ? messages.signOf(message, k) : NONE;
    }

    // ---- deeds

    public int send(int sign) {
        if (!within(sign, 0, NOTHING)) {
            return BAD;
        }
        past.remember(line);
        return line.sendFor(sign, 1);
    }

    public int cut(int p) {
        if (!isPlace(p)) {
            return BAD;
        }
        if (bitAt(line.cutWires, p) == 1) {
            return NO;
        }
        past.remember(line);
        line.cutWires |= 1 << p;
        return Integer.bitCount(line.cutWires);
    }

    public int turn(int p) {
        if (!isPlace(p)) {
            return BAD;
        }
        past.remember(line);
        line.turnedWires ^= 1 << p;
        return Integer.bitCount(line.turnedWires);
    }

    public int touch(int p) {
        if (!within(p, 0, LAST_TOUCHING)) {
            return BAD;
        }
        if (bitAt(line.touching, p) == 1) {
            return NO;
        }
        past.remember(line);
        line.touching |= 1 << p;
        return Integer.bitCount(line.touching);
    }

    public int mend(int p) {
        if (!isPlace(p)) {
            return BAD;
        }
        if (bitAt(line.mendableWires(), p) == 0) {
            return NO;
        }
        past.remember(line);
        line.mendAll(1 << p);
        return Integer.bitCount(line.cutWires | line.turnedWires | line.touching);
    }

    public int change(int p, int q) {
        if (!isPlace(p) || !isPlace(q) || p == q) {
            return BAD;
        }
        past.remember(line);
        line.swapNeedles(p, q);
        return line.kinds[p];
    }

    public int undo() {
        if (past.deeds == 0) {
            return NO;
        }
        past.undoOn(line);
        return past.deeds;
    }

    public int reads() {
        return line.readSign();
    }

    // ---- what would be read

    public int said(int message, int r, int g, int k) {
        if (!isSaying(message, r, g) || !within(k, -1, LONGEST_MESSAGE - 1)) {
            return BAD;
        }
        if (k >= messages.lengthOf(message)) {
            return NONE;
        }
        trial.copyFrom(line);
        return k == -1 ? messages.rightOn(trial, message, r, g) : messages.readOn(trial, message, r, g, k);
    }

    public int pace(int message, int what) {
        if (!isMessage(message) || !within(what, 0, 1)) {
            return BAD;
        }
        trial.copyFrom(line);
        for (int sum = 1; sum <= MOST_BEATS + MOST_GAP; sum++) {
            for (int r = 1; r <= MOST_BEATS; r++) {
                int g = sum - r;
                if (within(g, 0, MOST_GAP) && messages.isAllRightOn(trial, message, r, g)) {
                    return what == 0 ? r : g;
                }
            }
        }
        return NONE;
    }

    public int clear(int r) {
        if (!isBeats(r)) {
            return BAD;
        }
        trial.copyFrom(line);
        int bits = 0;
        for (int sign = 0; sign <= LAST_POINTING; sign++) {
            if (trial.sendFromRest(sign, r) == sign) {
                bits |= 1 << sign;
            }
        }
        return bits;
    }

    public int like(int sign) {
        if (!within(sign, 0, NOTHING)) {
            return BAD;
        }
        trial.copyFrom(line);
        int read = trial.sendFromRest(sign, 1);
        for (int other = 0; other < sign; other++) {
            if (trial.sendFromRest(other, 1) == read) {
                return other;
            }
        }
        return sign;
    }

    public int mending(int message, int r, int g) {
        if (!isSaying(message, r, g)) {
            return BAD;
        }
        for (int size = 0; size <= PLACES; size++) {
            for (int wires = 0; wires < 1 << PLACES; wires++) {
                if (Integer.bitCount(wires) == size && isAllRightMended(wires, message, r, g)) {
                    return wires;
                }
            }
        }
        return NONE;
    }

    public int changing(int message, int r, int g, int what) {
        if (!isSaying(message, r, g) || !within(what, 0, 1)) {
            return BAD;
        }
        trial.copyFrom(line);
        int most = messages.rightOn(trial, message, r, g);
        int both = NONE;
        for (int p = 0; p < PLACES; p++) {
            for (int q = p + 1; q < PLACES; q++) {
                trial.swapNeedles(p, q);
                int right = messages.rightOn(trial, message, r, g);
                trial.swapNeedles(p, q);
                if (right > most) {
                    most = right;
                    both = 10 * p + q;
                }
            }
        }
        return what == 0 || both == NONE ? both : most;
    }

    public int order(int r, int k) {
        if (!isBeats(r) || !within(k, -1, LAST_PLACE)) {
            return BAD;
        }
        trial.copyFrom(line);
        arrangement.find(trial, r);
        return k == -1 ? arrangement.most : arrangement.best[k];
    }

    // ---- what is wrong, which word it was

    public int see(int sign, int read) {
        if (!within(sign, 0, LAST_POINTING) || !within(read, 0, MUDDLE)) {
            return BAD;
        }
        if (suspects.seen >= MOST_SEEN) {
            return FULL;
        }
        suspects.add(sign, read);
        return suspects.seen;
    }

    public int canBe() {
        return suspects.possible(trial);
    }

    public int tries(int what) {
        if (!within(what, 0, 1)) {
            return BAD;
        }
        int possible = suspects.possible(trial);
        if (Integer.bitCount(possible) <= 1) {
            return NONE;
        }
        int sign = suspects.bestSign(possible);
        return what == 0 ? sign : suspects.greatestPart(possible, sign);
    }

    public int hear(int sign) {
        if (!within(sign, 0, LETTERS - 1) && sign != MUDDLE) {
            return BAD;
        }
        if (hearing.heard >= MOST_HEARD) {
            return FULL;
        }
        hearing.add(sign);
        return hearing.heard;
    }

    public int fits() {
        int bits = 0;
        for (int message = 0; message < messages.many; message++) {
            if (hearing.isLike(messages, message)) {
                bits |= 1 << message;
            }
        }
        return bits;
    }

    public int forget(int what) {
        if (!within(what, 0, 1)) {
            return BAD;
        }
        return what == 0 ? suspects.empty() : hearing.empty();
    }

    // ---- turns, chances, days

    public int duel(int message, int n) {
        if (!isMessage(message) || !within(n, 0, MOST_TURNS)) {
            return BAD;
        }
        contest.beginFor(line, message);
        return contest.outcome(messages, n, true, 0, line.cutWires);
    }

    public int odds(int sign, int x, int part) {
        if (!within(sign, 0, LAST_POINTING) || !within(x, 0, 10) || !within(part, 0, 1)) {
            return BAD;
        }
        trial.copyFrom(line);
        return lowestTerms(slackChances(sign, x), part);
    }

    public int mean(int message, int x, int part) {
        if (!isMessage(message) || !within(x, 0, 10) || !within(part, 0, 1)) {
            return BAD;
        }
        trial.copyFrom(line);
        int chances = 0;
        for (int k = 0; k < messages.lengthOf(message); k++) {
            chances += slackChances(messages.signOf(message, k), x);
        }
        return lowestTerms(chances, part);
    }

    public int day(int z, int n, int what) {
        if (!within(z, 0, 9999) || !within(n, 1, 60) || !within(what, 0, 2)) {
            return BAD;
        }
        trial.copyFrom(line);
        int right = 0;
        int muddles = 0;
        for (int k = 0; k < n; k++) {
            int draw = drawOf(z, k);
            if (draw % 8 < 5) {
                int sign = draw / 8 % (NOTHING + 1);
                int read = trial.sendFor(sign, 1);
                right += read == sign ? 1 : 0;
                muddles += read == MUDDLE ? 1 : 0;
            } else {
                doDrawn(draw % 8, draw / 64 % PLACES);
            }
        }
        if (what == 0) {
            return right;
        }
        return what == 1 ? muddles : Integer.bitCount(trial.cutWires);
    }

    // ---- kept

    public int keep() {
        if (past.kept >= MOST_KEPT) {
            return FULL;
        }
        past.keepLine(line);
        return past.kept;
    }

    public int back() {
        if (past.kept == 0) {
            return NO;
        }
        past.backOn(line);
        return past.kept;
    }

    public int count(int what) {
        switch (what) {
            case 0: return messages.many;
            case 1: return Integer.bitCount(line.cutWires);
            case 2: return Integer.bitCount(line.turnedWires);
            case 3: return Integer.bitCount(line.touching);
            case 4: return line.notUpright();
            case 5: return past.deeds;
            case 6: return past.kept;
            case 7: return suspects.seen;
            case 8: return hearing.heard;
            case 9: return script.length;
            default: return BAD;
        }
    }

    // ---- what the calls share

    private static boolean within(int number, int least, int most) {
        return number >= least && number <= most;
    }

    private static boolean isPlace(int p) {
        return within(p, 0, LAST_PLACE);
    }

    private static boolean isBeats(int r) {
        return within(r, 1, MOST_BEATS);
    }

    private boolean isMessage(int message) {
        return within(message, 0, messages.many - 1);
    }

    private boolean isSaying(int message, int r, int g) {
        return isMessage(message) && isBeats(r) && within(g, 0, MOST_GAP);
    }

    private static int bitAt(int bits, int p) {
        return bits >> p & 1;
    }

    private void layScript() {
        line.makeWhole();
        line.rest();
        messages.many = 0;
        script.tell(line, messages);
        past.empty();
        suspects.empty();
        hearing.empty();
    }

    private boolean isAllRightMended(int wires, int message, int r, int g) {
        trial.copyFrom(line);
        trial.mendAll(wires);
        return messages.isAllRightOn(trial, message, r, g);
    }

    /** Of ALL_CHANCES (ten for each NEEDLE), those by which the SIGN is READ. */
    private int slackChances(int sign, int x) {
        trial.sendFromRest(sign, 1);
        int chances = 1;
        for (int p = 0; p < PLACES; p++) {
            chances *= slackShare(trial.stands[p], POINTING[sign * PLACES + p], x);
        }
        return chances;
    }

    /** Of ten, how often a NEEDLE that would stand so stands as it is wanted. */
    private static int slackShare(int stands, int wanted, int x) {
        if (stands == wanted) {
            return stands == UPRIGHT ? 10 : 10 - x;
        }
        return wanted == UPRIGHT ? x : 0;
    }

    private static int lowestTerms(int chances, int part) {
        int divisor = commonDivisor(chances, ALL_CHANCES);
        if (divisor == 0) {
            return 0;
        }
        return (part == 0 ? chances : ALL_CHANCES) / divisor;
    }

    private static int commonDivisor(int one, int other) {
        // 64 steps are more than Euclid's way needs for any two ints
        for (int step = 0; step < 64 && one != 0; step++) {
            int left = other % one;
            other = one;
            one = left;
        }
        return other;
    }

    private static int drawOf(int z, int k) {
        long x = 7919L * z + 6151L * k + 1;
        return (int) (x * x % 65521);
    }

    private void doDrawn(int deed, int p) {
        if (deed == 5) {
            trial.cutWires |= 1 << p;
        } else if (deed == 6) {
            trial.mendAll(1 << p);
        } else {
            trial.swapNeedles(p, (p + 1) % PLACES);
        }
    }

    /** WIRES and NEEDLES as they are. */
    private static final class Line {
        final int[] kinds = new int[PLACES];
        final int[] stands = new int[PLACES];
        final int[] got = new int[PLACES];
        /** What each WIRE carries in the BEAT that is being sent; of no meaning between BEATS. */
        final int[] carried = new int[PLACES];
        int cutWires;
        int turnedWires;
        int touching;

        void copyFrom(Line other) {
            for (int p = 0; p < PLACES; p++) {
                kinds[p] = other.kinds[p];
                stands[p] = other.stands[p];
                got[p] = other.got[p];
            }
            cutWires = other.cutWires;
            turnedWires = other.turnedWires;
            touching = other.touching;
        }

        void makeWhole() {
            for (int p = 0; p < PLACES; p++) {
                kinds[p] = PLAIN;
            }
            cutWires = 0;
            turnedWires = 0;
            touching = 0;
        }

        void rest() {
            for (int p = 0; p < PLACES; p++) {
                stands[p] = UPRIGHT;
                got[p] = 0;
            }
        }

        int sendFromRest(int sign, int beats) {
            rest();
            return sendFor(sign, beats);
        }

        int sendFor(int sign, int beats) {
            // the WIRES carry the same in each of these BEATS
            carrySign(sign);
            for (int beat = 0; beat < beats; beat++) {
                for (int p = 0; p < PLACES; p++) {
                    stands[p] = standing(kinds[p], carried[p], aheadOf(p), got[p], stands[p]);
                    got[p] = carried[p];
                }
            }
            return readSign();
        }

        void carrySign(int sign) {
            for (int p = 0; p < PLACES; p++) {
                int given = POINTING[sign * PLACES + p];
                int borne = bitAt(turnedWires, p) == 1 ? otherWay(given) : given;
                carried[p] = bitAt(cutWires, p) == 1 ? 0 : borne;
            }
            for (int p = 0; p < LAST_PLACE && touching != 0; p++) {
                boolean isFirst = p == 0 || bitAt(touching, p - 1) == 0;
                if (isFirst && bitAt(touching, p) == 1) {
                    shareFrom(p);
                }
            }
        }

        /** The WIRES that are together from this one on, of which each still has what it bears. */
        private void shareFrom(int first) {
            int last = first;
            while (last < LAST_PLACE && (touching & 1 << last) != 0) {
                last++;
            }
            int surplus = 0;
            for (int p = first; p <= last; p++) {
                surplus += carried[p] == RIGHT ? 1 : 0;
                surplus -= carried[p] == LEFT ? 1 : 0;
            }
            int shared = surplus > 0 ? RIGHT : surplus < 0 ? LEFT : 0;
            for (int p = first; p <= last; p++) {
                carried[p] = (cutWires & 1 << p) != 0 ? 0 : shared;
            }
        }

        /** What the NEEDLE to the left of this PLACE GETS. */
        int aheadOf(int p) {
            return p == 0 ? 0 : carried[p - 1];
        }

        static int standing(int kind, int gets, int aheadGets, int got, int stood) {
            int stiff = gets == got ? gets : UPRIGHT;
            switch (kind) {
                case STIFF: return stiff;
                case LAZY: return gets == 0 ? got : gets;
                case LED: return gets == 0 ? aheadGets : gets;
                case CONTRARY: return otherWay(stiff);
                case STUCK: return gets == 0 ? stood : gets;
                default: return gets;
            }
        }

        static int otherWay(int way) {
            return way == 0 ? 0 : RIGHT + LEFT - way;
        }

        int readSign() {
            int rights = 0;
            int lefts = 0;
            int rightAt = 0;
            int leftAt = 0;
            for (int p = 0; p < PLACES; p++) {
                if (stands[p] == RIGHT) {
                    rights++;
                    rightAt = p;
                } else if (stands[p] == LEFT) {
                    lefts++;
                    leftAt = p;
                }
            }
            if (rights > 1 || lefts > 1) {
                return MUDDLE;
            }
            if (rights == 1) {
                return lefts == 1 ? LETTER_BETWEEN[rightAt * PLACES + leftAt] : RIGHT_FIGURES + rightAt;
            }
            return lefts == 1 ? LEFT_FIGURES + leftAt : NOTHING;
        }

        int notUpright() {
            int many = 0;
            for (int p = 0; p < PLACES; p++) {
                many += stands[p] == UPRIGHT ? 0 : 1;
            }
            return many;
        }

        int mendableWires() {
            return cutWires | turnedWires | touching | touching << 1;
        }

        /** Each of these WIRES (bits), as far as it can be; the order is no matter. */
        void mendAll(int wires) {
            cutWires &= ~wires;
            turnedWires &= ~wires;
            touching &= ~(wires | wires >> 1);
        }

        void swapNeedles(int p, int q) {
            swapIn(kinds, p, q);
            swapIn(stands, p, q);
            swapIn(got, p, q);
        }

        private static void swapIn(int[] row, int p, int q) {
            int held = row[p];
            row[p] = row[q];
            row[q] = held;
        }
    }

    /** THE TEXT. */
    private static final class Script {
        private final char[] letters = new char[LONGEST_TEXT];
        int length;

        void append(char letter) {
            if (length < LONGEST_TEXT) {
                letters[length] = letter;
                length++;
            }
        }

        int empty() {
            int was = length;
            length = 0;
            return was;
        }

        int firstFault() {
            int place = 0;
            int told = 0;
            // every ITEM has letters, so there are not more of them than letters
            for (int item = 0; item < LONGEST_TEXT && place < length; item++) {
                int end = itemEnd(place);
                told += letterAt(place) == 'm' ? 1 : 0;
                if (end == NONE || told > MOST_MESSAGES) {
                    return place;
                }
                place = end;
            }
            return NONE;
        }

        /** Of a TEXT without FAULT, where small m is nowhere but ahead of a MESSAGE. */
        boolean tellsMessage() {
            for (int place = 0; place < length; place++) {
                if (letters[place] == 'm') {
                    return true;
                }
            }
            return false;
        }

        /** Of a TEXT without FAULT. */
        void tell(Line line, Messages messages) {
            int place = 0;
            for (int item = 0; item < LONGEST_TEXT && place < length; item++) {
                int end = itemEnd(place);
                if (end == NONE) {
                    return;
                }
                tellItem(place, end, line, messages);
                place = end;
            }
        }

        private void tellItem(int start, int end, Line line, Messages messages) {
            int p = figureAt(start + 1);
            switch (letterAt(start)) {
                case 'n':
                    line.kinds[p] = figureAt(start + 3);
                    break;
                case 'c':
                    line.cutWires |= 1 << p;
                    break;
                case 't':
                    line.turnedWires |= 1 << p;
                    break;
                case 'j':
                    line.touching |= 1 << p;
                    break;
                default:
                    tellMessage(start + 1, end - 1, messages);
                    break;
            }
        }

        private void tellMessage(int first, int behind, Messages messages) {
            messages.begin();
            for (int place = first; place < behind; place++) {
                messages.spell(letterAt(place));
            }
        }

        /** The place behind an ITEM, NONE if what begins there is not so. */
        private int itemEnd(int start) {
            switch (letterAt(start)) {
                case 'n': return needleEnd(start);
                case 'c': return wireEnd(start, LAST_PLACE);
                case 't': return wireEnd(start, LAST_PLACE);
                case 'j': return wireEnd(start, LAST_TOUCHING);
                case 'm': return messageEnd(start);
                default: return NONE;
            }
        }

        private int needleEnd(int start) {
            boolean isSo = isPlace(figureAt(start + 1)) && letterAt(start + 2) == ','
                && within(figureAt(start + 3), 0, LAST_KIND) && letterAt(start + 4) == ';';
            return isSo ? start + 5 : NONE;
        }

        private int wireEnd(int start, int last) {
            boolean isSo = within(figureAt(start + 1), 0, last) && letterAt(start + 2) == ';';
            return isSo ? start + 3 : NONE;
        }

        private int messageEnd(int start) {
            int many = 0;
            while (many < LONGEST_MESSAGE && within(letterAt(start + 1 + many), 'A', 'Z')) {
                many++;
            }
            return many > 0 && letterAt(start + 1 + many) == ';' ? start + many + 2 : NONE;
        }

        /** The figure there, -1 if there is none. */
        private int figureAt(int place) {
            int letter = letterAt(place);
            return within(letter, '0', '9') ? letter - '0' : -1;
        }

        /** 0, which is no letter, behind the end. */
        private char letterAt(int place) {
            return place >= 0 && place < length ? letters[place] : 0;
        }
    }

    /** MESSAGES as they are SPELT. */
    private static final class Messages {
        private final int[] signs = new int[MOST_MESSAGES * LONGEST_MESSAGE];
        private final int[] lengths = new int[MOST_MESSAGES];
        int many;

        void begin() {
            if (many < MOST_MESSAGES) {
                lengths[many] = 0;
                many++;
            }
        }

        void spell(char letter) {
            int message = many - 1;
            if (message < 0 || lengths[message] >= LONGEST_MESSAGE || !within(letter, 'A', 'Z')) {
                return;
            }
            signs[message * LONGEST_MESSAGE + lengths[message]] = SPELLING[letter - 'A'];
            lengths[message]++;
        }

        int lengthOf(int message) {
            return lengths[message];
        }

        int signOf(int message, int k) {
            return signs[message * LONGEST_MESSAGE + k];
        }

        /** SAID on a line: what is READ for the k-th. */
        int readOn(Line on, int message, int r, int g, int k) {
            on.rest();
            for (int i = 0; i < k; i++) {
                on.sendFor(signOf(message, i), r);
                on.sendFor(NOTHING, g);
            }
            return on.sendFor(signOf(message, k), r);
        }

        /** SAID on a line: how many are RIGHT. */
        int rightOn(Line on, int message, int r, int g) {
            on.rest();
            int right = 0;
            for (int i = 0; i < lengths[message]; i++) {
                int sign = signOf(message, i);
                right += on.sendFor(sign, r) == sign ? 1 : 0;
                on.sendFor(NOTHING, g);
            }
            return right;
        }

        boolean isAllRightOn(Line on, int message, int r, int g) {
            on.rest();
            for (int i = 0; i < lengths[message]; i++) {
                int sign = signOf(message, i);
                if (on.sendFor(sign, r) != sign) {
                    return false;
                }
                on.sendFor(NOTHING, g);
            }
            return true;
        }
    }

    /** Lines as they were ahead of the latest DEEDS, and those that are KEPT. */
    private static final class Past {
        private final Line[] ahead = new Line[MOST_UNDONE];
        private final Line[] keptLines = new Line[MOST_KEPT];
        private int next;
        int deeds;
        int kept;

        Past() {
            for (int i = 0; i < MOST_UNDONE; i++) {
                ahead[i] = new Line();
            }
            for (int i = 0; i < MOST_KEPT; i++) {
                keptLines[i] = new Line();
            }
        }

        void empty() {
            deeds = 0;
            kept = 0;
        }

        void remember(Line line) {
            ahead[next].copyFrom(line);
            next = (next + 1) % MOST_UNDONE;
            deeds = Math.min(deeds + 1, MOST_UNDONE);
        }

        void undoOn(Line line) {
            if (deeds > 0) {
                next = (next + MOST_UNDONE - 1) % MOST_UNDONE;
                deeds--;
                line.copyFrom(ahead[next]);
            }
        }

        void keepLine(Line line) {
            if (kept < MOST_KEPT) {
                keptLines[kept].copyFrom(line);
                kept++;
            }
        }

        void backOn(Line line) {
            if (kept > 0) {
                kept--;
                line.copyFrom(keptLines[kept]);
                deeds = 0;
            }
        }
    }

    /** WRONG things, and what is SEEN of them. */
    private static final class Suspects {
        private static final int WRONGS = 25;
        private static final int FIRST_TURNED = 5, FIRST_TOUCHING = 10, FIRST_STIFF = 14, FIRST_LED = 19, NO_WRONG = 24;
        private static final int POINTING_SIGNS = LAST_POINTING + 1;

        private final int[] seenSigns = new int[MOST_SEEN];
        private final int[] seenReads = new int[MOST_SEEN];
        /** By WRONG thing, then by SIGN: what is READ; the same for all lines, so worked out once. */
        private final byte[] readings = new byte[WRONGS * POINTING_SIGNS];
        private boolean hasReadings;
        /** How many are READ alike, by what is READ. */
        private final int[] parts = new int[MUDDLE + 1];
        int seen;

        void add(int sign, int read) {
            if (seen < MOST_SEEN) {
                seenSigns[seen] = sign;
                seenReads[seen] = read;
                seen++;
            }
        }

        int empty() {
            int was = seen;
            seen = 0;
            return was;
        }

        int possible(Line scratch) {
            workOutReadings(scratch);
            int bits = 0;
            for (int wrong = 0; wrong < WRONGS; wrong++) {
                if (agrees(wrong)) {
                    bits |= 1 << wrong;
                }
            }
            return bits;
        }

        private boolean agrees(int wrong) {
            for (int i = 0; i < seen; i++) {
                if (readings[wrong * POINTING_SIGNS + seenSigns[i]] != seenReads[i]) {
                    return false;
                }
            }
            return true;
        }

        int bestSign(int possible) {
            int best = 0;
            int least = WRONGS + 1;
            for (int sign = 0; sign < POINTING_SIGNS; sign++) {
                int greatest = greatestPart(possible, sign);
                if (greatest < least) {
                    least = greatest;
                    best = sign;
                }
            }
            return best;
        }

        int greatestPart(int possible, int sign) {
            Arrays.fill(parts, 0);
            int greatest = 0;
            for (int wrong = 0; wrong < WRONGS; wrong++) {
                if (bitAt(possible, wrong) == 1) {
                    int read = readings[wrong * POINTING_SIGNS + sign];
                    parts[read]++;
                    greatest = Math.max(greatest, parts[read]);
                }
            }
            return greatest;
        }

        private void workOutReadings(Line scratch) {
            if (hasReadings) {
                return;
            }
            for (int wrong = 0; wrong < WRONGS; wrong++) {
                scratch.makeWhole();
                makeWrong(scratch, wrong);
                for (int sign = 0; sign < POINTING_SIGNS; sign++) {
                    readings[wrong * POINTING_SIGNS + sign] = (byte) scratch.sendFromRest(sign, 1);
                }
            }
            hasReadings = true;
        }

        private static void makeWrong(Line line, int wrong) {
            if (wrong < FIRST_TURNED) {
                line.cutWires = 1 << wrong;
            } else if (wrong < FIRST_TOUCHING) {
                line.turnedWires = 1 << wrong - FIRST_TURNED;
            } else if (wrong < FIRST_STIFF) {
                line.touching = 1 << wrong - FIRST_TOUCHING;
            } else if (wrong < FIRST_LED) {
                line.kinds[wrong - FIRST_STIFF] = STIFF;
            } else if (wrong < NO_WRONG) {
                line.kinds[wrong - FIRST_LED] = LED;
            }
        }
    }

    /** What is HEARD. */
    private static final class Hearing {
        private final int[] signs = new int[MOST_HEARD];
        int heard;

        void add(int sign) {
            if (heard < MOST_HEARD) {
                signs[heard] = sign;
                heard++;
            }
        }

        int empty() {
            int was = heard;
            heard = 0;
            return was;
        }

        boolean isLike(Messages messages, int message) {
            if (messages.lengthOf(message) != heard) {
                return false;
            }
            for (int k = 0; k < heard; k++) {
                if (signs[k] != MUDDLE && signs[k] != messages.signOf(message, k)) {
                    return false;
                }
            }
            return true;
        }
    }

    /** One who CUTS and one who MENDS, by turns. */
    private static final class Contest {
        private static final int UNKNOWN = -1;

        private final Line start = new Line();
        private final Line scratch = new Line();
        /** By WIRES MENDED so far and WIRES CUT, which make up all that can differ: how many are RIGHT. */
        private final int[] ends = new int[1 << 2 * PLACES];
        private int message;

        void beginFor(Line line, int which) {
            start.copyFrom(line);
            Arrays.fill(ends, UNKNOWN);
            message = which;
        }

        int outcome(Messages messages, int turns, boolean isCutting, int mended, int cutNow) {
            if (turns <= 0) {
                return endOf(messages, mended, cutNow);
            }
            int best = outcome(messages, turns - 1, !isCutting, mended, cutNow);
            int open = isCutting ? ~cutNow : mendableBehind(mended, cutNow);
            for (int p = 0; p < PLACES; p++) {
                int wire = 1 << p;
                if ((open & wire) == 0) {
                    continue;
                }
                if (isCutting) {
                    best = Math.min(best, outcome(messages, turns - 1, false, mended, cutNow | wire));
                } else {
                    best = Math.max(best, outcome(messages, turns - 1, true, mended | wire, cutNow & ~wire));
                }
            }
            return best;
        }

        private int mendableBehind(int mended, int cutNow) {
            layOut(mended, cutNow);
            return scratch.mendableWires();
        }

        private int endOf(Messages messages, int mended, int cutNow) {
            int key = mended << PLACES | cutNow;
            if (key < 0 || key >= ends.length) {
                return 0;
            }
            if (ends[key] == UNKNOWN) {
                layOut(mended, cutNow);
                ends[key] = messages.rightOn(scratch, message, 1, 1);
            }
            return ends[key];
        }

        private void layOut(int mended, int cutNow) {
            scratch.copyFrom(start);
            scratch.mendAll(mended);
            scratch.cutWires = cutNow;
        }
    }

    /** In which order the NEEDLES had best stand. */
    private static final class Arrangement {
        /** By NEEDLE, then by PLACE: the letters (bits) for which it stands there as it should. */
        private final int[] shown = new int[PLACES * PLACES];
        private final int[] chosen = new int[PLACES];
        final int[] best = new int[PLACES];
        int most;

        /** What a NEEDLE does hangs on its PLACE and no other NEEDLE, so each is tried at each once. */
        void find(Line line, int r) {
            Arrays.fill(shown, 0);
            for (int sign = 0; sign < LETTERS; sign++) {
                line.carrySign(sign);
                noteShown(line, sign, r);
            }
            most = -1;
            fillFrom(0, 0, (1 << LETTERS) - 1);
        }

        private void noteShown(Line line, int sign, int r) {
            for (int needle = 0; needle < PLACES; needle++) {
                for (int p = 0; p < PLACES; p++) {
                    int stood = standsBehind(line, line.kinds[needle], p, r);
                    if (stood == POINTING[sign * PLACES + p]) {
                        shown[needle * PLACES + p] |= 1 << sign;
                    }
                }
            }
        }

        private static int standsBehind(Line line, int kind, int p, int r) {
            int stood = UPRIGHT;
            int got = 0;
            for (int beat = 0; beat < r; beat++) {
                stood = Line.standing(kind, line.carried[p], line.aheadOf(p), got, stood);
                got = line.carried[p];
            }
            return stood;
        }

        private void fillFrom(int place, int used, int letters) {
            if (place >= PLACES) {
                keepIfBetter(Integer.bitCount(letters));
                return;
            }
            for (int needle = 0; needle < PLACES; needle++) {
                if (bitAt(used, needle) == 0) {
                    chosen[place] = needle;
                    fillFrom(place + 1, used | 1 << needle, letters & shown[needle * PLACES + place]);
                }
            }
        }

        private void keepIfBetter(int letters) {
            if (letters > most) {
                most = letters;
                for (int p = 0; p < PLACES; p++) {
                    best[p] = chosen[p];
                }
            }
        }
    }
}
