/** The sentences on LINES that name an edge (parts 2 and 3, promises 16 to 24), each with its last and first inputs. */
public final class EdgesOfLinesTest {
    private static final int NO_ONE = Check.NONE;
    private static final String MAY = "mark root may;", LINE = "line plain set 0 1;";

    public static void main(String[] args) {
        versions();
        belowWhatItWas();
        thereFromTheVersionOn();
        endedFromTheVersionOn();
        endedOnce();
        linesThatAreThere();
        whatOfALine();
        versionsOfABody();
        buyersOfABody();
        nextLowerNumber();
        meantAlone();
        whatOfARun();
        modulo();
        faultOfARun();
        cellsThatAreSet();
        endsOne();
        endsAll();
        endsOfNoBuyer();
        endsOfNoKinds();
        togetherOfMarks();
        togetherAdded();
        togetherAllowed();
        holdOfFewMarks();
        holdLeast();
        failingNumbers();
        literals();
        weakestOfSeveral();
        weakestHoldsInTheMost();
        weakestNone();
        Check.end();
    }

    private static void versions() {
        Check.sentence("2: VERSIONS 0 .. 9; THE VERSION (0 at first); promise 16: BAD: above 9");
        MarkedBody x = new MarkedBody();
        Check.due("at first", 0, x.count(7));
        Check.due("what it was", 0, x.version(0));
        for (int v = 1; v <= 9; v++) {
            Check.due("what it was", v - 1, x.version(v));
            Check.due("it is", v, x.count(7));
        }
        int[] none = {10, 11, Check.MOST, -1, Check.LEAST};
        for (int v : none) {
            Check.due("version " + v, Check.BAD, x.version(v));
        }
        Check.due("the last again", 9, x.version(9));
        Check.due("from the first to the last", 0, new MarkedBody().version(9));
        Check.due("10 at first", Check.BAD, new MarkedBody().version(10));
        Check.due("-1 at first", Check.BAD, new MarkedBody().version(-1));
    }

    private static void belowWhatItWas() {
        Check.sentence("Promise 16: BAD: it is below what it was");
        MarkedBody x = Check.told(LINE);
        x.version(5);
        for (int v = -1; v < 5; v++) {
            Check.due("below", Check.BAD, x.version(v));
            Check.due("it stays", 5, x.count(7));
        }
        Check.due("as it was", 5, x.version(5));
        Check.due("above", 5, x.version(6));
        Check.due("below", Check.BAD, x.version(5));
        x.end(0);
        Check.due("ended from the one that stayed", 6, x.line(0, 3));
    }

    private static void thereFromTheVersionOn() {
        Check.sentence("2: LINES that come are there from THE VERSION on");
        MarkedBody x = new MarkedBody();
        for (int v = 0; v <= 9; v++) {
            x.version(v);
            Check.good(x, LINE, v + 1);
            Check.due("from", v, x.line(v, 2));
        }
        for (int v = 0; v <= 9; v++) {
            Check.due("in version " + v, (2 << v) - 1, x.body(0, v, NO_ONE));
        }
    }

    private static void endedFromTheVersionOn() {
        Check.sentence("2: one may be ENDED: from THE VERSION on it is not");
        MarkedBody x = Check.told(LINE.repeat(11));
        for (int v = 0; v <= 9; v++) {
            x.version(v);
            Check.due("not ended", Check.NONE, x.line(v, 3));
            Check.due("end", 1, x.end(v));
            Check.due("ended from", v, x.line(v, 3));
        }
        for (int v = 0; v <= 9; v++) {
            Check.due("in version " + v, 2047 & -(2 << v), x.body(0, v, NO_ONE));
        }
        Check.good(x, LINE, 12);
        Check.due("ended as it comes", 1, x.end(11));
        Check.due("in no version", 1024, x.body(0, 9, NO_ONE));
    }

    private static void endedOnce() {
        Check.sentence("2: ENDED (once); promise 17: STATE: it was");
        MarkedBody x = Check.told(LINE + LINE);
        x.version(2);
        Check.due("end", 1, x.end(0));
        Check.due("again", Check.STATE, x.end(0));
        x.version(3);
        Check.due("in a later version", Check.STATE, x.end(0));
        Check.due("from where it was", 2, x.line(0, 3));
        Check.due("the other is not", Check.NONE, x.line(1, 3));
        Check.due("the other", 1, x.end(1));
        Check.due("in version 1", 3, x.body(0, 1, NO_ONE));
        Check.due("in version 2", 2, x.body(0, 2, NO_ONE));
        Check.due("in version 3", 0, x.body(0, 3, NO_ONE));
    }

    private static void linesThatAreThere() {
        Check.sentence("1: LINES 0 .. 23; promises 17, 18, 27, 29, 30, 31: BAD: there is no such LINE");
        MarkedBody x = new MarkedBody();
        noLine(x, 0);
        Check.read(x, LINE);
        noLine(x, 1);
        Check.due("the first", 1, x.kind(0));
        Check.read(x, LINE.repeat(23));
        noLine(x, 24);
        noLine(x, -1);
        noLine(x, Check.LEAST);
        noLine(x, Check.MOST);
        Check.due("the last", 0, x.line(23, 0));
        Check.due("the last", 255, x.who(23));
        Check.due("the last", 1, x.kind(23));
        Check.due("the last", 23, x.as(23, 0));
        Check.due("the last", 24, x.ask(23, 1));
        Check.due("the last", 1, x.end(23));
    }

    private static void noLine(MarkedBody x, int line) {
        Check.due("end " + line, Check.BAD, x.end(line));
        Check.due("line " + line, Check.BAD, x.line(line, 0));
        Check.due("who " + line, Check.BAD, x.who(line));
        Check.due("kind " + line, Check.BAD, x.kind(line));
        Check.due("as " + line, Check.BAD, x.as(line, 0));
        Check.due("ask " + line, Check.BAD, x.ask(line, 0));
    }

    private static void whatOfALine() {
        Check.sentence("Promise 18: 0 sort, 1 its BUYER (NONE), 2 from, 3 ENDED (NONE), 4 how many MARKS. BAD");
        MarkedBody x = Check.told(MAY + LINE + "line other set 0 1 if 0;line patch 0 set 0 1;line patch 7 set 0 1 if 0 or 0;");
        x.version(9);
        Check.read(x, "line plain set 0 1 if 0 or 0 or 0 or 0 or 0 or 0 or 0 or 0 or 0 or 0 or 0 or 0;");
        x.end(4);
        int[][] due = {
            {0, Check.NONE, 0, Check.NONE, 0},
            {1, Check.NONE, 0, Check.NONE, 1},
            {2, 0, 0, Check.NONE, 0},
            {2, 7, 0, Check.NONE, 2},
            {0, Check.NONE, 9, 9, 12},
        };
        int[] none = {-1, 5, Check.LEAST, Check.MOST};
        for (int line = 0; line < 5; line++) {
            for (int what = 0; what < 5; what++) {
                Check.due("line " + line + " " + what, due[line][what], x.line(line, what));
            }
            for (int what : none) {
                Check.due("line " + line + " " + what, Check.BAD, x.line(line, what));
            }
        }
    }

    private static void versionsOfABody() {
        Check.sentence("2: VERSIONS 0 .. 9; promises 19, 20, 25: BAD: VERSION");
        MarkedBody x = Check.told(LINE);
        for (int v = 0; v <= 9; v++) {
            Check.due("body in " + v, 1, x.body(0, v, NO_ONE));
            Check.due("run in " + v, 1, x.run(0, v, NO_ONE, 0));
            Check.due("buyer in " + v, 1, x.buyer(0, 0, v));
        }
        int[] none = {-1, 10, Check.NONE, Check.LEAST, Check.MOST};
        for (int v : none) {
            Check.due("body in " + v, Check.BAD, x.body(0, v, NO_ONE));
            Check.due("run in " + v, Check.BAD, x.run(0, v, NO_ONE, 0));
            Check.due("buyer in " + v, Check.BAD, x.buyer(0, 0, v));
        }
    }

    private static void buyersOfABody() {
        Check.sentence("2: a BUYER (or none); promises 19, 20: a BUYER (NONE). BAD: BUYER");
        StringBuilder text = new StringBuilder(LINE);
        for (int b = 0; b < 8; b++) {
            text.append("line plain set 1 1;line patch ").append(b).append(" set 1 2;");
        }
        MarkedBody x = Check.told(text.toString());
        int plain = 0b01010101010101011;
        Check.due("none", plain, x.body(0, 0, NO_ONE));
        Check.due("none", 1, x.run(0, 0, NO_ONE, 1));
        for (int b = 0; b < 8; b++) {
            int own = 3 << (2 * b + 1);
            Check.due("buyer " + b, plain ^ own, x.body(0, 0, b));
            Check.due("buyer " + b, b == 7 ? 2 : 1, x.run(0, 0, b, 1));
        }
        int[] no = {-1, 8, Check.NONE - 1, Check.NONE + 1, Check.LEAST, Check.MOST};
        for (int b : no) {
            Check.due("buyer " + b, Check.BAD, x.body(0, 0, b));
            Check.due("buyer " + b, Check.BAD, x.run(0, 0, b, 1));
        }
    }

    private static void nextLowerNumber() {
        Check.sentence("2: where an 'other' or a patch is MEANT, the LINE of the next lower number does not stand");
        MarkedBody x = Check.told("line other set 0 1;");
        Check.due("the first has none below", 1, x.body(0, 0, NO_ONE));
        Check.read(x, "line other set 0 1;");
        Check.due("one other behind another", 2, x.body(0, 0, NO_ONE));
        Check.read(x, "line plain set 0 1;");
        Check.due("a plain one leaves it", 6, x.body(0, 0, NO_ONE));
        Check.read(x, LINE.repeat(20) + "line other set 0 1;");
        Check.due("the last", (1 << 24) - 1 & ~1 & ~(1 << 22), x.body(0, 0, NO_ONE));
        x = Check.told(LINE + "line patch 0 set 0 2;line patch 1 set 0 3;");
        Check.due("of no one", 1, x.body(0, 0, NO_ONE));
        Check.due("of the first", 2, x.body(0, 0, 0));
        Check.due("of the second, not two below", 5, x.body(0, 0, 1));
        Check.due("of another", 1, x.body(0, 0, 2));
    }

    private static void meantAlone() {
        Check.sentence("2: MEANT are LINES that are there in that VERSION, of which the saying holds (without one: always)");
        MarkedBody x = Check.told(MAY + LINE + "line other set 0 2 if 0;line plain set 0 3;");
        x.version(2);
        Check.read(x, "line other set 0 4;");
        x.version(4);
        x.end(3);
        Check.due("where its saying does not hold", 5, x.body(0, 0, NO_ONE));
        Check.due("where it holds", 6, x.body(1, 0, NO_ONE));
        Check.due("ahead of its VERSION", 5, x.body(0, 1, NO_ONE));
        Check.due("in its VERSION", 9, x.body(0, 2, NO_ONE));
        Check.due("in the last", 9, x.body(0, 3, NO_ONE));
        Check.due("as it is ENDED", 5, x.body(0, 4, NO_ONE));
        Check.due("no LINES", 0, new MarkedBody().body(0, 0, NO_ONE));
    }

    private static void whatOfARun() {
        Check.sentence("Promise 20: CELLS (what = 0 to 3), its FAULT (4; NONE). BAD: what");
        MarkedBody x = Check.told("line plain set 0 9;line plain set 1 8;line plain set 2 7;line plain set 3 6;");
        int[] due = {9, 8, 7, 6, Check.NONE};
        for (int what = 0; what < 5; what++) {
            Check.due("run " + what, due[what], x.run(0, 0, NO_ONE, what));
        }
        int[] none = {-1, 5, Check.LEAST, Check.MOST};
        for (int what : none) {
            Check.due("run " + what, Check.BAD, x.run(0, 0, NO_ONE, what));
        }
        for (int what = 0; what < 4; what++) {
            Check.due("no LINES", 0, new MarkedBody().run(0, 0, NO_ONE, what));
        }
        Check.due("no LINES", Check.NONE, new MarkedBody().run(0, 0, NO_ONE, 4));
    }

    private static int cellOf(String text) {
        return Check.told("line plain set 0 37;line plain set 1 27;line plain mul 0 1;" + text).run(0, 0, NO_ONE, 0);
    }

    private static void modulo() {
        Check.sentence("2: A RUN: all modulo 1000");
        Check.due("999", 999, cellOf(""));
        Check.due("999 and 0", 999, cellOf("line plain add 0 0;"));
        Check.due("999 and 1", 0, cellOf("line plain add 0 1;"));
        Check.due("999 and 99", 98, cellOf("line plain add 0 99;"));
        Check.due("999 and 999", 998, cellOf("line plain sum 0 0;"));
        Check.due("999 times 999", 1, cellOf("line plain mul 0 0;"));
        Check.due("999 and one by a cell", 0, cellOf("line plain set 1 1;line plain sum 0 1;"));
        Check.due("50 times 20", 0, cellOf("line plain set 0 50;line plain set 1 20;line plain mul 0 1;"));
        Check.due("anew", 99, cellOf("line plain set 0 99;"));
    }

    private static int faultOf(String text) {
        return Check.told(MAY + text).run(0, 0, NO_ONE, 4);
    }

    private static void faultOfARun() {
        Check.sentence("2: Its FAULT: the first LINE of add, sum, mul of which a CELL was not set by a LINE ahead");
        Check.due("set alone", Check.NONE, faultOf("line plain set 0 1;"));
        String[] acts = {"add", "sum", "mul"};
        for (int act = 0; act < 3; act++) {
            String line = "line plain " + acts[act] + " 0 1;";
            Check.due("neither", 0, faultOf(line));
            Check.due("the first of two", 1, faultOf("line plain set 2 1;" + line + line));
            Check.due("the first cell alone", act == 0 ? Check.NONE : 1, faultOf("line plain set 0 1;" + line));
            Check.due("the second cell alone", 1, faultOf("line plain set 1 1;" + line));
            Check.due("both", Check.NONE, faultOf("line plain set 0 1;line plain set 1 1;" + line));
            Check.due("behind it", 1, faultOf("line plain set 1 1;" + line + "line plain set 0 1;"));
            Check.due("by one that does not stand", 2, faultOf("line plain set 1 1;line plain set 0 1 if 0;" + line));
            Check.due("one that does not stand has none", Check.NONE,
                    faultOf(line.replace(";", " if 0;") + "line plain set 0 1;line plain set 1 1;" + line));
        }
        for (int cells = 0; cells < 16; cells++) {
            String line = "line plain " + (cells % 3 == 0 ? "sum " : "mul ") + cells / 4 + " " + cells % 4 + ";";
            for (int set = 0; set < 4; set++) {
                boolean isSet = cells / 4 == set && cells % 4 == set;
                Check.due(line, isSet ? Check.NONE : 1, faultOf("line plain set " + set + " 1;" + line));
            }
            String both = "line plain set " + cells / 4 + " 1;line plain set " + cells % 4 + " 1;";
            Check.due(both + line, Check.NONE, faultOf(both + line));
        }
        Check.due("with itself, set", Check.NONE, faultOf("line plain set 3 1;line plain mul 3 3;"));
        Check.due("with itself, not set", 0, faultOf("line plain mul 3 3;line plain set 3 1;"));
        Check.due("the last LINE", 23, faultOf(LINE.repeat(23) + "line plain add 1 1;"));
    }

    private static void cellsThatAreSet() {
        Check.sentence("2: CELLS are 0 and not set; ('set' alone sets; it is done all the same)");
        MarkedBody x = Check.told("line plain add 0 5;line plain sum 1 0;line plain mul 2 0;line plain add 2 0;line plain sum 1 1;");
        Check.due("add does not set: the first", 0, x.run(0, 0, NO_ONE, 4));
        int[] due = {5, 10, 0, 0};
        for (int c = 0; c < 4; c++) {
            Check.due("done all the same", due[c], x.run(0, 0, NO_ONE, c));
        }
        String[] acts = {"add 0 1", "sum 0 1", "mul 0 1"};
        for (String act : acts) {
            x = Check.told("line plain set 1 1;line plain " + act + ";line plain add 1 1;line plain add 0 1;");
            Check.due(act + " has it", 1, x.run(0, 0, NO_ONE, 4));
            x.version(1);
            x.end(1);
            Check.due("without it the next has", 3, x.run(0, 1, NO_ONE, 4));
        }
        x = Check.told("line plain set 0 0;line plain add 0 0;");
        Check.due("set to 0 is set", Check.NONE, x.run(0, 0, NO_ONE, 4));
        Check.due("each run anew", 0, Check.told("line plain add 0 3;").run(0, 0, NO_ONE, 4));
        x = Check.told(MAY + "line plain set 0 9 if 0;line plain add 0 3;");
        Check.due("set in one KIND", 12, x.run(1, 0, NO_ONE, 0));
        Check.due("not in the next", 3, x.run(0, 0, NO_ONE, 0));
        Check.due("not in the next", 1, x.run(0, 0, NO_ONE, 4));
    }

    private static void endsOne() {
        Check.sentence("Promise 21: How many unlike ENDS (i = -1); the i-th, by rising numbers; NONE: not so many. BAD: i below -1");
        MarkedBody x = Check.told(MAY + MAY + "line plain set 0 50;line plain set 0 20 if 0;line plain set 0 90 if 1;");
        int[] due = {3, 20, 50, 90, Check.NONE, Check.NONE};
        for (int i = -1; i < 5; i++) {
            Check.due("ends " + i, due[i + 1], x.ends(i));
        }
        Check.due("far", Check.NONE, x.ends(Check.MOST));
        Check.due("below -1", Check.BAD, x.ends(-2));
        Check.due("far below", Check.BAD, x.ends(Check.LEAST));
        Check.due("of no LINES one", 1, new MarkedBody().ends(-1));
        Check.due("of no LINES 0", 0, new MarkedBody().ends(0));
        Check.due("of no LINES no more", Check.NONE, new MarkedBody().ends(1));
    }

    /** Each MARK adds its bit's number, so the 1024 KINDS end at all numbers there are. */
    private static MarkedBody withAllEnds() {
        MarkedBody x = Check.told(MAY.repeat(10));
        StringBuilder text = new StringBuilder("line plain set 0 0;");
        for (int m = 0; m < 10; m++) {
            for (int rest = 1 << m; rest > 0; rest -= 99) {
                text.append("line plain add 0 ").append(Math.min(99, rest)).append(" if ").append(m).append(';');
                if (text.length() > 450) {
                    Check.read(x, text.toString());
                    text.setLength(0);
                }
            }
        }
        Check.read(x, text.toString());
        return x;
    }

    private static void endsAll() {
        Check.sentence("3: ENDS: CELL 0 (0 to 999)");
        MarkedBody x = withAllEnds();
        Check.due("how many", 1000, x.ends(-1));
        int[] some = {0, 1, 2, 500, 998, 999};
        for (int i : some) {
            Check.due("ends " + i, i, x.ends(i));
        }
        Check.due("no more", Check.NONE, x.ends(1000));
        Check.due("no more", Check.NONE, x.ends(1024));
        Check.due("twice, as 0 and as 1000", 2, x.failing(0, 0));
        Check.due("twice, as 23 and as 1023", 2, x.failing(23, 0));
        Check.due("once", 1, x.failing(24, 0));
        Check.due("the last", 1, x.failing(999, 0));
    }

    private static void endsOfNoBuyer() {
        Check.sentence("3: ENDS: of an ALLOWED KIND in THE VERSION, of no BUYER");
        MarkedBody x = Check.told(MAY + "line plain set 0 1;line patch 0 set 0 2;line plain set 0 3 if 0;");
        Check.due("1 and 3", 2, x.ends(-1));
        Check.due("1", 1, x.ends(0));
        x.version(1);
        Check.read(x, "line plain set 0 7;");
        Check.due("7 alone", 1, x.ends(-1));
        Check.due("7", 7, x.ends(0));
        x.version(2);
        x.end(3);
        Check.due("1 and 3 again", 2, x.ends(-1));
        x.end(0);
        Check.due("0 and 3", 0, x.ends(0));
        Check.read(x, "law 0;");
        Check.due("3 alone", 1, x.ends(-1));
        Check.due("3", 3, x.ends(0));
    }

    private static void endsOfNoKinds() {
        Check.sentence("3: what is of ALLOWED KINDS, where there are none");
        MarkedBody x = Check.told(MAY + MAY + "law 0;law not 0;line plain set 0 0;");
        Check.due("ends", 0, x.ends(-1));
        Check.due("ends", Check.NONE, x.ends(0));
        Check.due("hold", 0, x.hold(-1));
        Check.due("hold", Check.NONE, x.hold(0));
        Check.due("together", Check.NONE, x.together(0, 1));
        Check.due("failing", 0, x.failing(0, 0));
        Check.due("weakest", Check.NONE, x.failing(0, 1));
        Check.due("the LINE is an IDLER", 5, x.kind(0));
        Check.due("size of an IDLER", 0, x.ask(0, 0));
    }

    private static void togetherOfMarks() {
        Check.sentence("Promise 22: two MARKS. BAD (alike, too)");
        MarkedBody x = new MarkedBody();
        Check.due("no MARKS", Check.BAD, x.together(0, 1));
        x = Check.told(MAY.repeat(10) + "line plain set 0 1;line plain set 0 2 if 8 and 9;line plain set 0 3 if 0 and 1;");
        Check.due("the first two", 3, x.together(0, 1));
        Check.due("the first two, the other way", 3, x.together(1, 0));
        Check.due("the last two, the other way", 768, x.together(8, 9));
        Check.due("the last two", 768, x.together(9, 8));
        Check.due("none", Check.NONE, x.together(2, 9));
        int[] none = {-1, 10, Check.LEAST, Check.MOST};
        for (int m : none) {
            Check.due("no such MARK", Check.BAD, x.together(0, m));
            Check.due("no such MARK", Check.BAD, x.together(m, 0));
            Check.due("alike and no such MARK", Check.BAD, x.together(m, m));
        }
        for (int m = 0; m < 10; m++) {
            Check.due("alike", Check.BAD, x.together(m, m));
        }
        x = Check.told(MAY + "line plain set 0 1 if 0;");
        Check.due("one MARK alone", Check.BAD, x.together(0, 1));
    }

    private static void togetherAdded() {
        Check.sentence("3: the ENDS of K and of K without both, added, are not those of the other two");
        String nines = "line plain set 0 37;line plain set 1 27;line plain mul 0 1;";
        MarkedBody x = Check.told(MAY + MAY + nines + "line plain set 0 0 if 0 or 1;line plain set 0 1 if 0 and 1;");
        Check.due("1 and 999 are not 0 and 0", 3, x.together(0, 1));
        x = Check.told(MAY + MAY + "line plain set 0 5;line plain add 0 1 if 0;line plain add 0 2 if 1;");
        Check.due("8 and 5 are 6 and 7", Check.NONE, x.together(0, 1));
        Check.read(x, "line plain add 0 1 if 0 and 1;");
        Check.due("9 and 5 are not 6 and 7", 3, x.together(0, 1));
        x = Check.told(MAY + MAY + "line plain set 0 3 if 0 and not 1;line plain set 0 3 if 1 and not 0;");
        Check.due("0 and 0 are not 3 and 3", 3, x.together(0, 1));
    }

    private static void togetherAllowed() {
        Check.sentence("3: a KIND K that has both, if K, K without a, without b, without both are ALLOWED");
        String[] bar = {"0 or 1", "not 0 or 1", "0 or not 1", "not 0 or not 1"};
        for (String law : bar) {
            MarkedBody x = Check.told(MAY + MAY + MAY + "line plain set 0 9 if 0 and 1;");
            Check.due("the least KIND", 3, x.together(0, 1));
            Check.read(x, "law 2 or " + law + ";");
            Check.due("the least KIND but those", 7, x.together(0, 1));
            Check.read(x, "law " + law + ";");
            Check.due("none", Check.NONE, x.together(0, 1));
        }
    }

    private static void holdOfFewMarks() {
        Check.sentence("3: PAIRS (two unlike MARKS, each on or off); promise 23: how many KINDS (i = -1); the i-th; NONE. BAD: i below -1");
        MarkedBody[] none = {new MarkedBody(), Check.told(MAY), Check.told("mark root must;")};
        for (MarkedBody x : none) {
            Check.due("no PAIRS", 0, x.hold(-1));
            Check.due("no PAIRS", Check.NONE, x.hold(0));
            Check.due("below -1", Check.BAD, x.hold(-2));
        }
        MarkedBody x = Check.told(MAY + MAY);
        int[] due = {4, 0, 1, 2, 3, Check.NONE, Check.NONE};
        for (int i = -1; i < 6; i++) {
            Check.due("hold " + i, due[i + 1], x.hold(i));
        }
        Check.due("far", Check.NONE, x.hold(Check.MOST));
        Check.due("below -1", Check.BAD, x.hold(-2));
        Check.due("far below", Check.BAD, x.hold(Check.LEAST));
        x = Check.told("mark root must;".repeat(10));
        Check.due("one KIND has all", 1, x.hold(-1));
        Check.due("one KIND has all", 1023, x.hold(0));
        Check.due("no more", Check.NONE, x.hold(1));
    }

    private static void holdLeast() {
        Check.sentence("3: HOLD: the most PAIRS that none ahead has; of several the least number; until all PAIRS are had");
        MarkedBody x = Check.told(MAY + MAY + MAY + "law 0 or 1 or 2;");
        int[] due = {4, 1, 2, 4, 7, Check.NONE};
        for (int i = -1; i < 5; i++) {
            Check.due("hold " + i, due[i + 1], x.hold(i));
        }
        Check.read(x, "law not 2;");
        Check.due("the PAIRS of ALLOWED KINDS alone", 3, x.hold(-1));
        int[] rest = {1, 2, 3, Check.NONE};
        for (int i = 0; i < 4; i++) {
            Check.due("hold " + i, rest[i], x.hold(i));
        }
        int[] more = {0, 6, 1, Check.NONE};
        x = Check.told(MAY + MAY + MAY + "law not 1 and not 2 or not 0 and 1 and 2;");
        for (int i = 0; i < 4; i++) {
            Check.due("more PAIRS ahead of a lower number " + i, more[i], x.hold(i));
        }
        x = Check.told(MAY + MAY + MAY + "law not 2;law not 0 or not 1;");
        int[] alike = {0, 1, 2, Check.NONE};
        for (int i = 0; i < 4; i++) {
            Check.due("as many PAIRS, by rising numbers " + i, alike[i], x.hold(i));
        }
        x = Check.told("mark root one;".repeat(10));
        Check.due("ten that have one each", 10, x.hold(-1));
        Check.due("the last", 512, x.hold(9));
    }

    private static void failingNumbers() {
        Check.sentence("Promise 24: the END being n (0 to 999): how many (what = 0), THE WEAKEST saying (1; NONE). BAD");
        MarkedBody x = Check.told(MAY + "line plain set 0 37;line plain set 1 27;line plain mul 0 1;line plain set 0 0 if 0;");
        Check.due("0", 1, x.failing(0, 0));
        Check.due("0", 0, x.failing(0, 1));
        Check.due("999", 1, x.failing(999, 0));
        Check.due("999", 1, x.failing(999, 1));
        Check.due("none", 0, x.failing(1, 0));
        Check.due("none", Check.NONE, x.failing(1, 1));
        int[] none = {-1, 1000, Check.LEAST, Check.MOST};
        for (int n : none) {
            Check.due("n " + n, Check.BAD, x.failing(n, 0));
            Check.due("n " + n, Check.BAD, x.failing(n, 1));
        }
        int[] no = {-1, 2, Check.LEAST, Check.MOST};
        for (int what : no) {
            Check.due("what " + what, Check.BAD, x.failing(0, what));
        }
    }

    private static void literals() {
        Check.sentence("3: LITERALS are 2 times a MARK (it is on), and 1 (it is off); two, a below b: 20 and 20 times a and b");
        for (int m = 0; m < 10; m++) {
            MarkedBody x = Check.told(MAY.repeat(10) + "line plain set 0 5;line plain set 0 6 if " + m + ";");
            Check.due("on", 2 * m, x.failing(6, 1));
            Check.due("off", 2 * m + 1, x.failing(5, 1));
        }
        for (int a = 0; a < 9; a++) {
            int b = a + 1 + a % (9 - a);
            String[] sayings = {a + " and " + b, a + " and not " + b, b + " and not " + a, "not " + a + " and not " + b};
            int[] numbers = {2 * a * 20 + 2 * b, 2 * a * 20 + 2 * b + 1, (2 * a + 1) * 20 + 2 * b, (2 * a + 1) * 20 + 2 * b + 1};
            for (int i = 0; i < 4; i++) {
                MarkedBody x = Check.told(MAY.repeat(10) + "line plain set 0 6 if " + sayings[i] + ";");
                Check.due(sayings[i], 20 + numbers[i], x.failing(6, 1));
                Check.due("how many", 256, x.failing(6, 0));
            }
        }
        MarkedBody x = Check.told(MAY.repeat(10) + "line plain set 0 6 if not 8 and not 9;");
        Check.due("the highest", 379, x.failing(6, 1));
        x = Check.told(MAY.repeat(10) + "line plain set 0 6 if 0 and 1;");
        Check.due("the lowest of two", 22, x.failing(6, 1));
    }

    private static void weakestOfSeveral() {
        Check.sentence("3: of several one of one LITERAL; of these the least number");
        MarkedBody x = Check.told("mark root must;" + MAY + "line plain set 0 6 if 1;");
        Check.due("one LITERAL ahead of two that hold in as many", 2, x.failing(6, 1));
        x = Check.told(MAY + MAY + "law 0 and 1 or not 0 and not 1;line plain set 0 6 if 1;");
        Check.due("the least of one LITERAL", 0, x.failing(6, 1));
        Check.due("the least of one LITERAL, off", 1, x.failing(0, 1));
        x = Check.told(MAY + MAY + MAY + "line plain set 0 6 if 0 and 1 or 1 and 2;");
        Check.due("the least of two LITERALS", 22, x.failing(6, 1));
        for (int marks = 1; marks <= 10; marks++) {
            x = Check.told(MAY.repeat(marks) + "line plain set 0 6;");
            Check.due("where all fail, of MARKS there are", 0, x.failing(6, 1));
        }
    }

    private static void weakestHoldsInTheMost() {
        Check.sentence("3: of those that hold in some ALLOWED KIND, and in FAILING ones alone, that which holds in the most");
        MarkedBody x = Check.told(MAY.repeat(4) + "law not 3 or 0 and 1 and 2;line plain set 0 6 if 0 and 1;");
        Check.due("two LITERALS in three ahead of one in one", 22, x.failing(6, 1));
        x = Check.told(MAY.repeat(4) + "law not 3 or 0 and 1 and 2;line plain set 0 6 if 3;");
        Check.due("one in one", 6, x.failing(6, 1));
        x = Check.told(MAY + MAY + "law not 0;line plain set 0 6;");
        Check.due("not what holds in none", 1, x.failing(6, 1));
        x = Check.told(MAY + MAY + MAY + "law not 2;line plain set 0 6 if 0 and 1;");
        Check.due("not two that hold in none", 22, x.failing(6, 1));
        x = Check.told(MAY + MAY + "law not 0 or not 1;line plain set 0 6 if 0 and not 1;");
        Check.due("KINDS that are not ALLOWED do not count", 0, x.failing(6, 1));
    }

    private static void weakestNone() {
        Check.sentence("Promise 24: THE WEAKEST saying (1; NONE)");
        MarkedBody x = Check.told(MAY + MAY + MAY + "line plain set 0 6 if 0 and 1 and 2;");
        Check.due("one of eight", 1, x.failing(6, 0));
        Check.due("no saying of two tells it", Check.NONE, x.failing(6, 1));
        Check.due("seven of eight", 7, x.failing(0, 0));
        Check.due("off 0", 1, x.failing(0, 1));
        Check.due("no MARKS, so no saying", Check.NONE, new MarkedBody().failing(0, 1));
        Check.due("though it fails", 1, new MarkedBody().failing(0, 0));
    }
}
