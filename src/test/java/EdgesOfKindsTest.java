/** The sentences on KINDS that name an edge (parts 1 and 2, promises 9 to 15), each with its last and first inputs. */
public final class EdgesOfKindsTest {
    private static final String MAY = "mark root may;", NOTHING = "law 0 or not 0;", BARRED = "law 0 and not 0;";

    public static void main(String[] args) {
        marksThatAreThere();
        underOneThatIsInIt();
        must();
        justOne();
        eachByItself();
        sayingsThatHold();
        lawsAndLinesThatAreThere();
        many();
        deadAndSure();
        ofNoKindsAll();
        idleLaws();
        idleWhat();
        forced();
        noKindGoesWithIt();
        toBeBoth();
        nearest();
        farthest();
        whyNone();
        whyOfOne();
        whyFewest();
        whyLeast();
        whyOfAllNine();
        Check.end();
    }

    private static void marksThatAreThere() {
        Check.sentence("Promises 9, 10, 13, 14, 15, 19, 20, 25: BAD: a MARK that is not there");
        for (int marks = 0; marks <= 10; marks++) {
            MarkedBody x = Check.told(MAY.repeat(marks) + "line plain set 0 1;");
            int all = (1 << marks) - 1;
            kindIs(x, 0, 0);
            kindIs(x, all, all);
            int[] none = {all + 1, 2 * all + 1 + (marks == 0 ? 1 : 0), 1024, -1, Check.LEAST, Check.MOST};
            for (int kind : none) {
                kindIs(x, kind, Check.BAD);
            }
        }
    }

    /** What each call with a KIND answers, where all KINDS are ALLOWED and one LINE always stands. */
    private static void kindIs(MarkedBody x, int kind, int nearest) {
        boolean isBad = nearest == Check.BAD;
        int one = isBad ? Check.BAD : 1;
        int none = isBad ? Check.BAD : Check.NONE;
        int open = isBad ? Check.BAD : 0;
        Check.due("allowed " + kind, one, x.allowed(kind));
        Check.due("holds " + kind, one, x.holds(1, 0, kind));
        Check.due("nearest " + kind, nearest, x.nearest(kind));
        Check.due("forced on " + kind, open, x.forced(kind, 0, 0));
        Check.due("forced off " + kind, open, x.forced(0, kind, 1));
        Check.due("why on " + kind, none, x.why(kind, 0));
        Check.due("why off " + kind, none, x.why(0, kind));
        Check.due("body " + kind, one, x.body(kind, 0, Check.NONE));
        Check.due("run " + kind, one, x.run(kind, 0, Check.NONE, 0));
        Check.due("buyer " + kind, one, x.buyer(0, kind, 0));
    }

    private static void allowed(String text, int marks, int... kinds) {
        MarkedBody x = Check.told(text);
        int n = 0;
        for (int kind = 0; kind < 1 << marks; kind++) {
            boolean due = n < kinds.length && kinds[n] == kind;
            n += due ? 1 : 0;
            Check.due("allowed(" + kind + ") of " + text, due ? 1 : 0, x.allowed(kind));
        }
        Check.due("many of " + text, kinds.length, x.many());
    }

    private static void underOneThatIsInIt() {
        Check.sentence("1: THE TREE: each MARK in it is under root, or under one that is in it");
        allowed("", 0, 0);
        allowed(MAY, 1, 0, 1);
        allowed(MAY + "mark 0 may;", 2, 0, 1, 3);
        allowed(MAY + "mark 0 may;mark 1 may;", 3, 0, 1, 3, 7);
        allowed(MAY + MAY + "mark 1 may;", 3, 0, 1, 2, 3, 6, 7);
        StringBuilder chain = new StringBuilder(MAY);
        for (int m = 1; m < 10; m++) {
            chain.append("mark ").append(m - 1).append(" may;");
        }
        MarkedBody x = Check.told(chain.toString());
        Check.due("a chain of ten", 11, x.many());
        Check.due("all of it", 1, x.allowed(1023));
        Check.due("without its first", 0, x.allowed(1022));
        Check.due("without its last but one", 0, x.allowed(1023 - 256));
    }

    private static void must() {
        Check.sentence("1: THE TREE: each 'must' MARK is in it that is under root, or under one that is in it");
        allowed("mark root must;", 1, 1);
        allowed("mark root must;mark root must;", 2, 3);
        allowed(MAY + "mark 0 must;", 2, 0, 3);
        allowed(MAY + "mark 0 must;mark 1 must;", 3, 0, 7);
        allowed("mark root must;mark 0 may;mark 1 must;", 3, 1, 7);
        Check.due("ten of them", 1023, Check.told("mark root must;".repeat(10)).nearest(0));
    }

    private static void justOne() {
        Check.sentence("1: THE TREE: of the MARKS 'one' .. if there are some, just one is in it");
        allowed("mark root one;", 1, 1);
        allowed("mark root one;mark root one;", 2, 1, 2);
        allowed("mark root one;mark root one;mark root one;", 3, 1, 2, 4);
        allowed(MAY + "mark 0 one;", 2, 0, 3);
        allowed(MAY + "mark 0 one;mark 0 one;", 3, 0, 3, 5);
        allowed("mark root one;mark root may;mark root must;mark root one;", 4, 5, 7, 12, 14);
        Check.due("one of ten", 10, Check.told("mark root one;".repeat(10)).many());
    }

    private static void eachByItself() {
        Check.sentence("1: THE TREE: under root, or under one that is in it (each of these by itself)");
        allowed("mark root one;mark root one;mark 0 one;mark 0 one;", 4, 2, 5, 9);
        allowed("mark root must;mark root must;mark 0 one;mark 1 one;", 4, 15);
        allowed("mark root must;mark root may;mark 0 one;mark 0 one;mark 1 one;", 5, 5, 9, 23, 27);
        allowed("mark root one;mark 0 one;mark 1 one;", 3, 7);
    }

    /** A KIND that is not ALLOWED has LAWS and sayings that hold of it, too. */
    private static void sayingsThatHold() {
        Check.sentence("Promise 10: holds of a KIND: 1, 0; the saying of a LINE (1; without one 1)");
        MarkedBody x = Check.told("mark root must;mark 0 may;law not 0;law 1;line plain set 0 0;line plain set 0 0 if not 1;");
        int[][] due = {{1, 0, 1, 0}, {0, 0, 1, 1}, {1, 1, 1, 1}, {1, 1, 0, 0}};
        for (int kind = 0; kind < 4; kind++) {
            Check.due("not allowed", 0, x.allowed(kind));
            for (int i = 0; i < 4; i++) {
                Check.due("holds " + i / 2 + " " + i % 2 + " of " + kind, due[i][kind], x.holds(i / 2, i % 2, kind));
            }
        }
    }

    private static void lawsAndLinesThatAreThere() {
        Check.sentence("Promise 10: a LAW (what = 0), the saying of a LINE (1). BAD");
        MarkedBody x = new MarkedBody();
        Check.due("no law", Check.BAD, x.holds(0, 0, 0));
        Check.due("no line", Check.BAD, x.holds(1, 0, 0));
        x = Check.told(MAY + "law 0;line plain set 0 0 if 0;line plain set 0 0;");
        int[][] bad = {{0, 1, 0}, {0, -1, 0}, {0, 2, 0}, {0, Check.LEAST, 0}, {0, Check.MOST, 0}, {1, 2, 0}, {1, -1, 0},
            {1, 23, 0}, {1, Check.LEAST, 0}, {1, Check.MOST, 0}, {-1, 0, 0}, {2, 0, 0}, {Check.LEAST, 0, 0}, {Check.MOST, 0, 0}};
        for (int[] b : bad) {
            Check.due("holds " + b[0] + " " + b[1], Check.BAD, x.holds(b[0], b[1], b[2]));
        }
        Check.due("the last line", 1, x.holds(1, 1, 0));
        Check.read(x, "law 0;law 0;law 0;law 0;law 0;law 0;law not 0;");
        Check.due("the last law", 1, x.holds(0, 7, 0));
        Check.due("the one ahead", 0, x.holds(0, 6, 0));
        Check.due("behind the last", Check.BAD, x.holds(0, 8, 0));
        Check.read(x, "line plain set 0 0;".repeat(21) + "line plain set 0 0 if 0;");
        Check.due("the last line", 0, x.holds(1, 23, 0));
        Check.due("the one ahead", 1, x.holds(1, 22, 0));
        Check.due("behind the last", Check.BAD, x.holds(1, 24, 0));
    }

    private static void many() {
        Check.sentence("2: MANY: how many KINDS are ALLOWED");
        for (int marks = 0; marks <= 10; marks++) {
            Check.due("of " + marks, 1 << marks, Check.told(MAY.repeat(marks)).many());
        }
        MarkedBody x = Check.told(MAY.repeat(10) + "law not (0 and 1 and 2 and 3 and 4 and 5 and 6 and 7 and 8 and 9);");
        Check.due("all but the highest", 1023, x.many());
        Check.due("the highest", 0, x.allowed(1023));
        Check.read(x, "law 0 or 1 or 2 or 3 or 4 or 5 or 6 or 7 or 8 or 9;");
        Check.due("all but the lowest, too", 1022, x.many());
        Check.read(x, "law 0;law not 0;");
        Check.due("none", 0, x.many());
    }

    private static void deadAndSure() {
        Check.sentence("2: DEAD MARKS: those that no ALLOWED KIND has; SURE ones: that each has");
        MarkedBody x = Check.told(MAY + MAY + "law not 0 or 1;");
        Check.due("one KIND has it", 0, x.idle(0));
        Check.due("one KIND has it not", 0, x.idle(1));
        Check.read(x, "law not 0;");
        Check.due("no KIND has it", 1, x.idle(0));
        Check.due("one KIND has the other not", 0, x.idle(1));
        Check.read(x, "law 1;");
        Check.due("dead", 1, x.idle(0));
        Check.due("sure", 2, x.idle(1));
        x = Check.told(MAY.repeat(8) + "mark root must;" + MAY + "law not 9;");
        Check.due("the last MARK", 1 << 9, x.idle(0));
        Check.due("the last but one", 1 << 8, x.idle(1));
    }

    private static void ofNoKindsAll() {
        Check.sentence("2: DEAD MARKS, SURE ones (of no KINDS all)");
        for (int marks = 1; marks <= 10; marks++) {
            MarkedBody x = Check.told(MAY.repeat(marks) + BARRED);
            Check.due("dead", (1 << marks) - 1, x.idle(0));
            Check.due("sure", (1 << marks) - 1, x.idle(1));
            Check.due("idle", 0, x.idle(2));
        }
        MarkedBody x = new MarkedBody();
        Check.due("no MARKS: dead", 0, x.idle(0));
        Check.due("no MARKS: sure", 0, x.idle(1));
    }

    private static void idleLaws() {
        Check.sentence("2: IDLE: LAWS of which each, if it alone were not there, would leave MANY as it is");
        Check.due("no LAWS", 0, Check.told(MAY).idle(2));
        Check.due("one that says nothing", 1, Check.told(MAY + NOTHING).idle(2));
        Check.due("one that bars one KIND", 0, Check.told(MAY + MAY + "law 0 or 1;").idle(2));
        Check.due("one that bars what THE TREE does", 1, Check.told(MAY + "mark 0 may;law 0 or not 1;").idle(2));
        Check.due("two alike", 3, Check.told(MAY + "law 0;law 0;").idle(2));
        Check.due("one within another", 2, Check.told(MAY + MAY + "law 0 and 1;law 0;").idle(2));
        Check.due("eight that say nothing", 255, Check.told(MAY + NOTHING.repeat(8)).idle(2));
        Check.due("the last that says something", 127, Check.told(MAY + NOTHING.repeat(7) + "law 0;").idle(2));
        Check.due("of no KINDS", 4, Check.told(MAY + "law 0;law not 0;" + NOTHING).idle(2));
        Check.due("of no KINDS, two alike", 5, Check.told(MAY + "law 0;law not 0;law 0;").idle(2));
        Check.due("of no KINDS, each alone bars all", 3, Check.told(MAY + BARRED + BARRED).idle(2));
    }

    private static void idleWhat() {
        Check.sentence("Promise 12: DEAD MARKS (what = 0), SURE ones (1), IDLE LAWS (2). BAD");
        MarkedBody x = Check.told("mark root must;" + MAY + "law not 1;law 0;law 0;");
        int[] due = {2, 1, 6};
        for (int what = 0; what < 3; what++) {
            Check.due("idle " + what, due[what], x.idle(what));
        }
        int[] none = {-1, 3, Check.LEAST, Check.MOST};
        for (int what : none) {
            Check.due("idle " + what, Check.BAD, x.idle(what));
        }
    }

    private static void forced() {
        Check.sentence("2: FORCED: open MARKS that are on (off) in all ALLOWED KINDS that go with it");
        MarkedBody x = Check.told(MAY + MAY + "mark root may;law not 0 or 1;law not (0 and 2);");
        Check.due("on", 2, x.forced(1, 0, 0));
        Check.due("off", 4, x.forced(1, 0, 1));
        Check.due("chosen ones are not open", 0, x.forced(3, 4, 0));
        Check.due("chosen ones are not open", 0, x.forced(3, 4, 1));
        Check.due("one KIND has it not", 0, x.forced(0, 1, 0));
        Check.due("one KIND has it", 0, x.forced(0, 0, 1));
        Check.due("off by one that is off", 1, x.forced(0, 2, 1));
        x = Check.told("mark root must;".repeat(9) + MAY + "law not 9;");
        Check.due("all but the last", 511, x.forced(0, 0, 0));
        Check.due("the last", 512, x.forced(0, 0, 1));
        Check.due("no MARKS", 0, new MarkedBody().forced(0, 0, 0));
        int[] none = {-1, 2, Check.LEAST, Check.MOST};
        for (int what : none) {
            Check.due("what " + what, Check.BAD, x.forced(0, 0, what));
        }
    }

    private static void noKindGoesWithIt() {
        Check.sentence("Promise 13: NONE: no ALLOWED KIND goes with it");
        MarkedBody x = Check.told(MAY + MAY + "law 0;law not 1;");
        Check.due("one KIND", 1, x.forced(0, 2, 0));
        Check.due("one KIND, all chosen", 0, x.forced(1, 2, 0));
        for (int what = 0; what < 2; what++) {
            Check.due("none", Check.NONE, x.forced(0, 1, what));
            Check.due("none", Check.NONE, x.forced(2, 0, what));
        }
        Check.due("BAD ahead of NONE", Check.BAD, x.forced(2, 0, 2));
        Check.read(x, "law not 0;");
        Check.due("none is ALLOWED", Check.NONE, x.forced(0, 0, 0));
        Check.due("none is ALLOWED", Check.NONE, x.forced(0, 0, 1));
    }

    private static void toBeBoth() {
        Check.sentence("Promises 13, 15: BAD: a MARK that is to be both");
        MarkedBody x = Check.told(MAY.repeat(10));
        for (int m = 0; m < 10; m++) {
            int bit = 1 << m;
            Check.due("both " + m, Check.BAD, x.forced(bit, bit, 0));
            Check.due("both " + m, Check.BAD, x.forced(1023, bit, 1));
            Check.due("both " + m, Check.BAD, x.why(bit, bit));
            Check.due("both " + m, Check.BAD, x.why(bit, 1023));
            Check.due("each one of them", 0, x.forced(bit, 1023 - bit, 0));
            Check.due("each one of them", Check.NONE, x.why(bit, 1023 - bit));
        }
    }

    private static void nearest() {
        Check.sentence("2: NEAREST: of which the fewest MARKS are unlike; of several the least number");
        MarkedBody x = Check.told("mark root one;".repeat(10));
        Check.due("itself", 512, x.nearest(512));
        Check.due("of ten", 1, x.nearest(0));
        Check.due("of ten", 1, x.nearest(1023));
        Check.due("of two", 256, x.nearest(768));
        Check.due("of two", 2, x.nearest(2 + 512));
        x = Check.told(MAY + MAY + MAY + "law 0 and 1 or not 0 and not 1 and 2;");
        Check.due("a higher number that is nearer", 4, x.nearest(0));
        Check.due("a lower number that is nearer", 3, x.nearest(1));
        Check.due("of two that are one off", 4, x.nearest(5));
        Check.due("of two that are one off", 4, x.nearest(6));
        Check.due("itself", 7, x.nearest(7));
    }

    private static void farthest() {
        Check.sentence("Promise 14: NONE: none is ALLOWED");
        MarkedBody x = Check.told("mark root must;".repeat(10));
        Check.due("all ten are unlike", 1023, x.nearest(0));
        Check.read(x, "law not 0;");
        Check.due("none", Check.NONE, x.nearest(0));
        Check.due("none", Check.NONE, x.nearest(1023));
        Check.due("BAD ahead of NONE", Check.BAD, x.nearest(1024));
        x = Check.told(MAY.repeat(10) + "law not (0 or 1 or 2 or 3 or 4 or 5 or 6 or 7 or 8 or 9);");
        Check.due("all ten are unlike", 0, x.nearest(1023));
    }

    private static void whyNone() {
        Check.sentence("Promise 15: NONE: an ALLOWED KIND goes with it");
        Check.due("no MARKS", Check.NONE, new MarkedBody().why(0, 0));
        MarkedBody x = Check.told(MAY + MAY + "law 0;law not 1;");
        Check.due("the one KIND", Check.NONE, x.why(0, 0));
        Check.due("the one KIND, all chosen", Check.NONE, x.why(1, 2));
        Check.due("none", 1, x.why(0, 1));
        Check.due("none", 2, x.why(2, 0));
        Check.due("none, of several", 1, x.why(2, 1));
    }

    private static void whyOfOne() {
        Check.sentence("2: WHY: LAWS (0 to 7) and THE TREE (8)");
        StringBuilder text = new StringBuilder(MAY.repeat(8) + "mark root must;mark 0 may;");
        for (int i = 0; i < 8; i++) {
            text.append("law not ").append(i).append(';');
        }
        MarkedBody x = Check.told(text.toString());
        for (int i = 0; i < 8; i++) {
            Check.due("law " + i, 1 << i, x.why(1 << i, 0));
        }
        Check.due("the tree", 256, x.why(0, 256));
        Check.due("the tree: a MARK under one that is off", 256, x.why(512, 1));
        Check.due("the tree and a law", 257, x.why(512, 0));
        Check.due("a law ahead of the tree", 1, x.why(1, 256));
    }

    private static void whyFewest() {
        Check.sentence("2: WHY: the fewest");
        MarkedBody x = Check.told(MAY + MAY + "law 0;law not 0;" + BARRED);
        Check.due("one of a higher number ahead of two", 4, x.why(0, 0));
        x = Check.told("mark root must;" + MAY + "law 0 or 1;law 0 or not 1;");
        Check.due("the tree ahead of two laws", 256, x.why(0, 1));
        x = Check.told(MAY.repeat(2) + "law 0;law 1;law not 0 or not 1;" + NOTHING + "law not 0;");
        Check.due("two ahead of three", 17, x.why(0, 0));
    }

    private static void whyLeast() {
        Check.sentence("2: WHY: of several sets the least number (bits)");
        Check.due("of one", 1, Check.told(MAY + BARRED + BARRED).why(0, 0));
        Check.due("a law ahead of the tree", 1, Check.told("mark root must;law 0;").why(0, 1));
        Check.due("6 ahead of 9", 6, Check.told(MAY + MAY + "law 0;law 1;law not 1;law not 0;").why(0, 0));
        Check.due("a law and a law ahead of the tree and a law", 3,
                Check.told("mark root must;law 0;law not 0;").why(0, 0));
    }

    /** THE TREE has MARK 8; each LAW hands on to the next MARK, and the last takes it back. */
    private static void whyOfAllNine() {
        Check.sentence("2: WHY: no KIND .. holds all these");
        MarkedBody x = Check.told(MAY.repeat(8) + "mark root must;law not 8 or 0;law not 0 or 1;law not 1 or 2;"
                + "law not 2 or 3;law not 3 or 4;law not 4 or 5;law not 5 or 6;law not 6;");
        Check.due("all nine", 511, x.why(0, 0));
        Check.due("from the middle on", 0b11110000, x.why(1 << 3, 0));
        Check.due("up to the middle", 0b100001111, x.why(0, 1 << 3));
        Check.read(x, MAY);
        Check.due("a MARK more changes nothing", 511, x.why(0, 0));
        Check.due("nor if it is chosen", 511, x.why(512, 0));
    }
}
