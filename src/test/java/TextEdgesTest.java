/** The sentences of part 1 that name an edge: THE TEXT, its ITEMS, FAULT, LAID (promises 1 to 8). */
public final class TextEdgesTest {
    private static final Due due = new Due();

    public static void main(String[] args) {
        laidAtFirst();
        lettersThatAreTold();
        twoHundredAtMost();
        wipedAndFullAgain();
        emptyText();
        oneFigureEach();
        partedAndEnded();
        everyLetterAtEveryPlace();
        everyNeedleAndKind();
        withoutAndTheLastOne();
        toldOnceMore();
        oneToEightLetters();
        sixMessages();
        firstLetterOfTheFirstItem();
        aMessageAtLeast();
        layBringsRest();
        wireFourTouchesNone();
        speltAtBothEnds();
        due.end();
    }

    private static void faultIs(String text, int place) {
        due.is("fault of " + text, Due.faultOf(text), place);
    }

    private static LetterNeedles written(String text) {
        LetterNeedles x = new LetterNeedles();
        Due.writeAll(x, text);
        return x;
    }

    /** "A letter (32 to 126, as in ASCII) comes behind THE TEXT: how long it is. BAD". */
    private static void lettersThatAreTold() {
        LetterNeedles x = new LetterNeedles();
        int length = 0;
        for (int letter = 0; letter < 160; letter++) {
            boolean isTold = letter >= 32 && letter <= 126;
            length += isTold ? 1 : 0;
            due.is("write(" + letter + ")", x.write(letter), isTold ? length : LetterNeedles.BAD);
            due.is("how long it is", x.count(9), length);
        }
        due.is("write(256 + 65)", x.write(256 + 65), LetterNeedles.BAD);
        due.is("write(65536 + 65)", x.write(65536 + 65), LetterNeedles.BAD);
        due.is("write(65 - 65536)", x.write(65 - 65536), LetterNeedles.BAD);
    }

    /** "A TEXT is letters (200 at most)"; "FULL". */
    private static void twoHundredAtMost() {
        String text = Whole.textOf200();
        due.is("letters", text.length(), 200);
        LetterNeedles x = written(text.substring(0, 199));
        due.is("199: count(9)", x.count(9), 199);
        due.is("199: fault(), the last ITEM has no end", x.fault(), 195);
        due.is("199: lay()", x.lay(), LetterNeedles.NO);
        due.is("the 200th", x.write(text.charAt(199)), 200);
        due.is("200: fault()", x.fault(), LetterNeedles.NONE);
        due.is("the 201st", x.write('x'), LetterNeedles.FULL);
        due.is("200 still: fault()", x.fault(), LetterNeedles.NONE);
        due.is("200: lay()", x.lay(), 6);
        due.is("200: count(9)", x.count(9), 200);
        // the last ones of the 28 are numbers 23 to 27: places 3, 4, 0, 1, 2 of kinds 5, 0, 1, 2, 3
        int[] kinds = {1, 2, 3, 5, 0};
        for (int p = 0; p < 5; p++) due.is("200: needle(" + p + ", 0)", x.needle(p, 0), kinds[p]);
        due.is("200: the last letter of the last MESSAGE", x.spelt(5, 7), 19);
    }

    /** "THE TEXT is empty: how long it was." */
    private static void wipedAndFullAgain() {
        LetterNeedles x = new LetterNeedles();
        due.is("wipe() of nothing", x.wipe(), 0);
        for (int i = 1; i <= 200; i++) due.is("write", x.write('x'), i);
        due.is("wipe() of all", x.wipe(), 200);
        due.is("wipe() of nothing again", x.wipe(), 0);
        for (int i = 1; i <= 200; i++) due.is("write again", x.write(';'), i);
        due.is("write the 201st again", x.write(';'), LetterNeedles.FULL);
    }

    /** "(.. at first n1,1;n3,2;j3;mQUAKER;mSLOUGH;mLATE;)", with THE TEXT empty. */
    private static void laidAtFirst() {
        LetterNeedles x = new LetterNeedles();
        LetterNeedles y = Due.laid("n1,1;n3,2;j3;mQUAKER;mSLOUGH;mLATE;");
        due.holds("NEEDLES and WIRES", Due.all(x).equals(Due.all(y)));
        int[] many = {3, 0, 0, 1, 0, 0, 0, 0, 0, 0};
        for (int what = 0; what < 10; what++) due.is("at first: count(" + what + ")", x.count(what), many[what]);
        for (int message = -1; message < 4; message++) {
            for (int k = -2; k < 9; k++) due.is("spelt(" + message + ", " + k + ")", x.spelt(message, k), y.spelt(message, k));
        }
        due.is("QUAKER is caught as KWAKER: K", x.spelt(0, 0), Due.sign('K'));
        due.is("QUAKER is caught as KWAKER: W", x.spelt(0, 1), Due.sign('W'));
        due.is("the next letter is the first one", x.write('m'), 1);
    }

    /** "FAULT. NONE." of an empty TEXT; "LAID is a TEXT .. of a MESSAGE at least". */
    private static void emptyText() {
        LetterNeedles x = new LetterNeedles();
        due.is("at first: count(9)", x.count(9), 0);
        due.is("at first: fault()", x.fault(), LetterNeedles.NONE);
        due.is("at first: lay()", x.lay(), LetterNeedles.NO);
        Due.writeAll(x, "mA;");
        due.is("lay()", x.lay(), 1);
        x.wipe();
        due.is("wiped: fault()", x.fault(), LetterNeedles.NONE);
        due.is("wiped: lay()", x.lay(), LetterNeedles.NO);
        due.is("wiped: what is LAID stays", x.count(0), 1);
    }

    /** "numbers (one figure each)". */
    private static void oneFigureEach() {
        for (String item : new String[] {"c00;", "c01;", "c10;", "t04;", "j00;", "j03;", "n00,0;", "n0,00;", "n04,5;", "n4,05;", "n10,0;"}) {
            faultIs(item, 0);
            faultIs("mA;" + item, 3);
        }
        for (String item : new String[] {"c;", "t;", "j;", "n,0;", "n0,;", "n,;", "n;", "m;", "c-1;", "c+1;", "n0,-1;"}) faultIs(item, 0);
    }

    /** "parted by , and a ; behind the last one". */
    private static void partedAndEnded() {
        for (String item : new String[] {"n01;", "n0;1;", "n0,,1;", "n0 ,1;", "n0, 1;", "n0.1;", "n0,1,;", "n,0,1;", "c0,;", "c,0;", "c0,1;", "t0,0;",
            "j0,1;", "n0,1,2;", "m,A;", "mA,;", "mA,B;"}) faultIs(item, 0);
        for (String item : new String[] {"n0,1", "c0", "t0", "j0", "mA", "mABCDEFGH", "n0,", "n0", "n", "c", "t", "j", "m"}) {
            faultIs(item, 0);
            faultIs("c0;" + item, 3);
            faultIs(item + "mA;", 0);
        }
        faultIs("c0;;", 3);
        faultIs(";c0;", 0);
        faultIs("c0;t0;j0;n0,0;mA;", LetterNeedles.NONE);
    }

    private static void only(String ahead, String told, String behind) {
        for (int letter = 32; letter <= 126; letter++) {
            boolean isTold = told.indexOf(letter) >= 0;
            String text = ahead + (char) letter + behind;
            boolean isFine = Due.faultOf(text) == LetterNeedles.NONE;
            due.holds(text + (isTold ? " has no FAULT" : " has a FAULT"), isFine == isTold);
        }
    }

    /** "PLACE P (0 to 4", "KIND K (0 .. 5", "WIRE P (0 to 4)", "(0 to 3)", "letters A to Z (65 to 90)". */
    private static void everyLetterAtEveryPlace() {
        String capitals = "ABCDEFGHIJKLMNOPQRSTUVWXYZ";
        only("", "n", "0,0;");
        only("n", "01234", ",0;");
        only("n0", ",", "0;");
        only("n0,", "012345", ";");
        only("n0,0", ";", "");
        only("", "ctj", "3;");
        only("", "ct", "4;");
        only("", "m", "A;");
        only("c", "01234", ";");
        only("c0", ";", "");
        only("t", "01234", ";");
        only("t0", ";", "");
        only("j", "0123", ";");
        only("j0", ";", "");
        only("m", capitals, ";");
        only("mA", ";", "");
        only("mABCDEFG", capitals, ";");
        only("mABCDEFGH", ";", "");
    }

    private static void everyNeedleAndKind() {
        for (int p = 0; p < 5; p++) {
            for (int kind = 0; kind < 6; kind++) {
                LetterNeedles x = Due.laid("n" + p + "," + kind + ";mA;");
                for (int q = 0; q < 5; q++) due.is("n" + p + "," + kind + "; needle(" + q + ", 0)", x.needle(q, 0), q == p ? kind : 0);
            }
            LetterNeedles x = Due.laid("c" + p + ";t" + p + ";mA;");
            for (int q = 0; q < 5; q++) {
                due.is("c" + p + "; wire(" + q + ", 0)", x.wire(q, 0), q == p ? 1 : 0);
                due.is("t" + p + "; wire(" + q + ", 1)", x.wire(q, 1), q == p ? 1 : 0);
                due.is("none TOUCHES: wire(" + q + ", 2)", x.wire(q, 2), 0);
            }
        }
    }

    /** "0 without; the last one of each". */
    private static void withoutAndTheLastOne() {
        LetterNeedles x = Due.laid("n0,5;n1,4;n2,3;n3,2;n4,1;mA;");
        x.wipe();
        Due.writeAll(x, "mA;");
        x.lay();
        for (int p = 0; p < 5; p++) due.is("without: needle(" + p + ", 0)", x.needle(p, 0), 0);
        x = Due.laid("n0,5;n4,5;n0,1;n4,0;mA;n0,2;");
        due.is("the last one of PLACE 0", x.needle(0, 0), 2);
        due.is("the last one of PLACE 4", x.needle(4, 0), 0);
    }

    /** "(of all three no matter if it is told once more)": thrice, twice. */
    private static void toldOnceMore() {
        LetterNeedles x = Due.laid("c1;t2;j3;c1;t2;j3;t2;mA;c1;j3;");
        due.is("CUT", x.wire(1, 0), 1);
        due.is("TURNED", x.wire(2, 1), 1);
        due.is("TOUCHES", x.wire(3, 2), 1);
        for (int what = 1; what <= 3; what++) due.is("count(" + what + ")", x.count(what), 1);
        x = Due.laid("c0;c0;t4;t4;j1;j1;mA;");
        due.is("CUT, told twice", x.wire(0, 0), 1);
        due.is("TURNED, told twice", x.wire(4, 1), 1);
        due.is("TOUCHES, told twice", x.wire(1, 2), 1);
    }

    /** "m and one to eight letters A to Z". */
    private static void oneToEightLetters() {
        String letters = "";
        for (int many = 0; many <= 10; many++) {
            boolean isTold = many >= 1 && many <= 8;
            faultIs("m" + letters + ";", isTold ? LetterNeedles.NONE : 0);
            faultIs("c0;m" + letters + ";c0;", isTold ? LetterNeedles.NONE : 3);
            if (isTold) due.is("spelt(0, -1) of " + letters, Due.laid("m" + letters + ";").spelt(0, -1), many);
            letters += "Y";
        }
    }

    /** "a MESSAGE; 6 at most, 0, 1, ..". */
    private static void sixMessages() {
        String text = "";
        for (int many = 1; many <= 6; many++) {
            text += "m" + "ABDEFG".charAt(many - 1) + ";";
            LetterNeedles x = written(text);
            due.is("fault() of " + many, x.fault(), LetterNeedles.NONE);
            due.is("lay() of " + many, x.lay(), many);
            due.is("count(0) of " + many, x.count(0), many);
            for (int i = 0; i < many; i++) due.is("MESSAGE " + i + " of " + many, x.spelt(i, 0), i);
            due.is("MESSAGE " + many + " of " + many, x.spelt(many, 0), LetterNeedles.BAD);
        }
        faultIs(text + "c0;n0,0;t0;j0;", LetterNeedles.NONE);
        faultIs(text + "mA;", 18);
        faultIs(text + "m;", 18);
        faultIs("c0;" + text + "t0;mA;c9;", 24);
        faultIs("x" + text + "mA;", 0);
        LetterNeedles x = written(text + "mA;");
        due.is("lay() of seven", x.lay(), LetterNeedles.NO);
        due.is("the first three stay", x.count(0), 3);
    }

    /** "FAULT: the place of the first letter of the first ITEM that is not so." */
    private static void firstLetterOfTheFirstItem() {
        faultIs("x", 0);
        faultIs("n0,6;n5,0;", 0);
        faultIs("n0,5;n5,0;n0,6;", 5);
        faultIs("mABCDEFGH;mABCDEFGHI;", 10);
        StringBuilder full = new StringBuilder("n0,0;n0,0;");
        for (int i = 0; i < 63; i++) full.append("c0;");
        due.is("letters", full.length(), 199);
        LetterNeedles x = written(full.toString());
        due.is("199 letters: fault()", x.fault(), LetterNeedles.NONE);
        x.write('c');
        due.is("the 200th begins an ITEM: fault()", x.fault(), 199);
        due.is("it is told again", x.fault(), 199);
    }

    private static void aMessageAtLeast() {
        due.is("lay() without a MESSAGE", written("n0,1;c0;t0;j0;").lay(), LetterNeedles.NO);
        due.is("lay() with one at the end", written("n0,1;c0;t0;j0;mA;").lay(), 1);
        due.is("lay() with one ahead", written("mA;n0,1;c0;t0;j0;").lay(), 1);
        due.is("lay() with one alone", written("mZ;").lay(), 1);
    }

    /** "LAID: .. at REST, nothing SEEN, HEARD, UNDONE, KEPT; THE TEXT stays." */
    private static void layBringsRest() {
        LetterNeedles x = Whole.full();
        for (int i = 0; i < 8; i++) x.send(i);
        int[] full = {6, 1, 0, 0, x.count(4), 8, 2, 8, 8, 200};
        for (int what = 0; what < 10; what++) due.is("ahead: count(" + what + ")", x.count(what), full[what]);
        due.is("lay()", x.lay(), 6);
        int[] laid = {6, 0, 0, 0, 0, 0, 0, 0, 0, 200};
        for (int what = 0; what < 10; what++) due.is("behind: count(" + what + ")", x.count(what), laid[what]);
        for (int p = 0; p < 5; p++) {
            due.is("behind: needle(" + p + ", 1)", x.needle(p, 1), 0);
            due.is("behind: needle(" + p + ", 2)", x.needle(p, 2), 0);
        }
        due.is("behind: reads()", x.reads(), 30);
        due.is("behind: canBe()", x.canBe(), (1 << 25) - 1);
        due.is("behind: fits()", x.fits(), 0);
        due.is("behind: see", x.see(0, 0), 1);
        due.is("behind: hear", x.hear(0), 1);
        due.is("behind: keep", x.keep(), 1);
        x.send(0);
        due.is("behind: undo", x.undo(), 0);
        due.is("behind: undo again", x.undo(), LetterNeedles.NO);
    }

    /** "TOUCHES the next one (2; WIRE 4: 0)". */
    private static void wireFourTouchesNone() {
        LetterNeedles x = Due.laid("j0;j1;j2;j3;c4;t4;mA;");
        for (int p = 0; p < 4; p++) due.is("wire(" + p + ", 2)", x.wire(p, 2), 1);
        due.is("wire(4, 2)", x.wire(4, 2), 0);
        due.is("wire(4, 1)", x.wire(4, 1), 1);
        due.is("wire(4, 0)", x.wire(4, 0), 1);
    }

    /** "how many SIGNS (k = -1), the k-th; NONE: not so many. BAD: k below -1, above 7, too." */
    private static void speltAtBothEnds() {
        String text = "m";
        for (int many = 1; many <= 8; many++) {
            text += "ABDEFGHI".charAt(many - 1);
            LetterNeedles x = Due.laid(text + ";");
            due.is(text + " k = -2", x.spelt(0, -2), LetterNeedles.BAD);
            due.is(text + " k = -1", x.spelt(0, -1), many);
            for (int k = 0; k <= 7; k++) due.is(text + " k = " + k, x.spelt(0, k), k < many ? k : LetterNeedles.NONE);
            due.is(text + " k = 8", x.spelt(0, 8), LetterNeedles.BAD);
        }
        String spelling = "ABKDEFGHIGKLMNOPKRSTWVWSYS";
        for (int i = 0; i < 26; i++) {
            LetterNeedles x = Due.laid("m" + (char) ('A' + i) + ";");
            due.is((char) ('A' + i) + " is SPELT", x.spelt(0, 0), Due.sign(spelling.charAt(i)));
        }
    }
}
