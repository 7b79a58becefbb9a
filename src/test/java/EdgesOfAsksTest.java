/** The sentences on BUYERS and ASKS that name an edge (parts 3 and 4, promises 25 to 33), with last and first inputs. */
public final class EdgesOfAsksTest {
    private static final String MAY = "mark root may;", LINE = "line plain set 0 1;";

    public static void main(String[] args) {
        buyersAtFirst();
        buyersThatAre();
        buyerHas();
        howManyBuyers();
        placesOfBuyers();
        orderOfBuyers();
        itemsOfBuyers();
        buyersHaveTheVersion();
        who();
        alike();
        kindsOfLines();
        idlers();
        idlersOfPatches();
        takenAs();
        sizes();
        marks();
        whatOfAnAsk();
        traceIsEmpty();
        traceNumbers();
        counts();
        callsOfAnObject();
        Check.end();
    }

    private static void buyersAtFirst() {
        Check.sentence("3: BUYERS 0 .. 7: each has a KIND and a VERSION (0 at first)");
        MarkedBody x = Check.told(MAY + "line plain set 0 1 if not 0;line plain set 0 1 if 0;");
        x.version(1);
        Check.read(x, LINE);
        x.end(0);
        Check.due("all have KIND 0 in VERSION 0", 255, x.who(0));
        Check.due("none has KIND 1", 0, x.who(1));
        Check.due("none has VERSION 1", 0, x.who(2));
        for (int b = 0; b < 8; b++) {
            Check.due("alike " + b, 1, x.alike(0, b));
        }
    }

    private static void buyersThatAre() {
        Check.sentence("3: BUYERS 0 .. 7; promises 25, 28: BAD");
        MarkedBody x = Check.told(MAY + "line plain set 0 1 if 0;");
        int all = 0;
        for (int b = 0; b < 8; b++) {
            Check.due("buyer " + b, 1, x.buyer(b, 1, 0));
            all |= 1 << b;
            Check.due("who", all, x.who(0));
            Check.due("alike " + b, 1, x.alike(b, 0));
        }
        int[] none = {-1, 8, Check.NONE, Check.LEAST, Check.MOST};
        for (int b : none) {
            Check.due("buyer " + b, Check.BAD, x.buyer(b, 0, 0));
            Check.due("alike " + b, Check.BAD, x.alike(b, 0));
            Check.due("alike " + b, Check.BAD, x.alike(0, b));
            Check.due("alike " + b, Check.BAD, x.alike(b, b));
        }
        Check.due("who", 255, x.who(0));
    }

    private static void buyerHas() {
        Check.sentence("Promise 25: A BUYER has a KIND and a VERSION: 1 (a KIND that is not ALLOWED, a VERSION to come, too)");
        MarkedBody x = Check.told(MAY + "law not 0;line plain set 0 1 if 0;");
        x.version(3);
        Check.read(x, LINE);
        Check.due("an early VERSION", 1, x.buyer(0, 1, 2));
        Check.due("THE VERSION", 1, x.buyer(1, 1, 3));
        Check.due("a later one", 1, x.buyer(2, 0, 9));
        Check.due("who has the KIND", 3, x.who(0));
        Check.due("who has the VERSION", 6, x.who(1));
        x.version(9);
        x.end(1);
        Check.due("ENDED in the last", 2, x.who(1));
        Check.due("again another KIND", 1, x.buyer(0, 0, 0));
        Check.due("who has the KIND", 2, x.who(0));
    }

    private static void howManyBuyers() {
        Check.sentence("Promise 26: BUYERS 0 to n - 1 (1 to 8). BAD: n");
        for (int n = 1; n <= 8; n++) {
            MarkedBody x = Check.told(MAY + "line plain set 0 1 if 0;");
            x.sheet(0, 0, 9);
            for (int i = 0; i < 9; i++) {
                x.set(0, i, 1);
            }
            Check.due("buyers " + n, n, x.buyers(0, 0, n));
            Check.due("who", (1 << n) - 1, x.who(0));
        }
        MarkedBody x = Check.told(MAY + "line plain set 0 1 if 0;");
        x.sheet(0, 0, 40);
        int[] none = {0, -1, 9, 40, Check.LEAST, Check.MOST};
        for (int n : none) {
            Check.due("buyers " + n, Check.BAD, x.buyers(0, 0, n));
            Check.due("status", 0, x.status());
        }
    }

    private static void placesOfBuyers() {
        Check.sentence("Promise 26: ITEMS of a SHEET from i on: PLACE");
        MarkedBody x = Check.told(MAY + "line plain set 0 1 if 0;");
        x.sheet(0, 1, 10);
        x.set(0, 9, 1);
        Check.due("the last place", 1, x.buyers(0, 9, 1));
        Check.due("the last place", 1, x.who(0));
        Check.due("the last eight", 8, x.buyers(0, 2, 8));
        Check.due("the last eight", 128, x.who(0));
        int[][] beyond = {{10, 1}, {9, 2}, {3, 8}, {-1, 1}, {-1, 8}, {-8, 8}, {Check.LEAST, 1}, {Check.MOST, 1}, {Check.MOST, 8}};
        for (int[] b : beyond) {
            Check.due("from " + b[0] + ", " + b[1], Check.PLACE, x.buyers(0, b[0], b[1]));
            Check.due("status", 2, x.status());
            Check.due("as before", 128, x.who(0));
        }
        x.sheet(1, 0, 0);
        Check.due("of an empty one", Check.PLACE, x.buyers(1, 0, 1));
        x.sheet(2, 0, 40);
        Check.due("the end of forty", 8, x.buyers(2, 32, 8));
        Check.due("beyond forty", Check.PLACE, x.buyers(2, 33, 8));
    }

    private static void orderOfBuyers() {
        Check.sentence("Promise 26: BAD: SHEET, n; NULL; PLACE; then BAD: an ITEM");
        MarkedBody x = Check.told(MAY);
        Check.due("BAD ahead of NULL: n", Check.BAD, x.buyers(0, 0, 9));
        Check.due("BAD ahead of NULL: n", Check.BAD, x.buyers(0, 0, 0));
        Check.due("NULL ahead of PLACE", Check.NULL, x.buyers(0, -1, 8));
        x.sheet(0, 2, 3);
        x.set(0, 0, 2);
        Check.due("BAD ahead of PLACE: n", Check.BAD, x.buyers(0, -1, 9));
        Check.due("PLACE ahead of an ITEM", Check.PLACE, x.buyers(0, 0, 4));
        Check.due("status", 2, x.status());
        Check.due("an ITEM", Check.BAD, x.buyers(0, 0, 3));
        Check.due("status stays", 2, x.status());
        Check.due("the others", 2, x.buyers(0, 1, 2));
        Check.due("status", 0, x.status());
    }

    private static void itemsOfBuyers() {
        Check.sentence("Promise 26: then BAD: an ITEM has a MARK that is not there");
        for (int marks = 0; marks <= 10; marks++) {
            MarkedBody x = Check.told(MAY.repeat(marks) + (marks == 0 ? LINE : "line plain set 0 1 if 0;"));
            int all = (1 << marks) - 1;
            x.sheet(0, 2, 8);
            for (int i = 0; i < 8; i++) {
                x.set(0, i, all);
            }
            Check.due("all MARKS of " + marks, 8, x.buyers(0, 0, 8));
            x.buyer(0, 0, 0);
            x.buyer(7, 0, 0);
            int who = x.who(0);
            int[] none = {all + 1, -1, Check.LEAST, Check.MOST, 1024};
            for (int kind : none) {
                x.set(0, 7, kind);
                Check.due("ITEM " + kind, Check.BAD, x.buyers(0, 0, 8));
                Check.due("none comes", who, x.who(0));
                Check.due("without it", 7, x.buyers(0, 0, 7));
                x.buyer(0, 0, 0);
            }
        }
    }

    private static void buyersHaveTheVersion() {
        Check.sentence("Promise 26: BUYERS have THE VERSION");
        MarkedBody x = Check.told(MAY + LINE);
        x.version(4);
        x.end(0);
        x.sheet(0, 0, 3);
        x.buyer(7, 0, 3);
        Check.due("buyers", 3, x.buyers(0, 0, 3));
        Check.due("the rest stay", 0b11111000, x.who(0));
        x.version(5);
        Check.read(x, LINE);
        Check.due("it stays what it was", 0, x.who(1));
        x.buyers(0, 0, 1);
        Check.due("it is THE VERSION now", 1, x.who(1));
    }

    private static void who() {
        Check.sentence("3: WHO: BUYERS in whose BODY a LINE stands");
        StringBuilder text = new StringBuilder(MAY + LINE);
        for (int b = 0; b < 8; b++) {
            text.append("line patch ").append(b).append(" set 0 1;");
        }
        MarkedBody x = Check.told(text.toString());
        Check.due("all but the one whose patch is next", 254, x.who(0));
        for (int b = 0; b < 8; b++) {
            Check.due("the patch of " + b, 1 << b, x.who(1 + b));
        }
        x.version(1);
        x.end(1);
        x.buyer(0, 0, 1);
        Check.due("an ENDED patch", 0, x.who(1));
        Check.due("what it stood for", 255, x.who(0));
    }

    private static void alike() {
        Check.sentence("Promise 28: Whether the BODIES of two BUYERS are the same: 1, 0");
        MarkedBody x = new MarkedBody();
        Check.due("of no LINES", 1, x.alike(0, 7));
        Check.read(x, MAY + LINE.repeat(22) + "line plain set 0 1 if 0;");
        x.buyer(7, 1, 9);
        Check.due("unlike", 0, x.alike(0, 7));
        Check.due("unlike", 0, x.alike(7, 0));
        Check.due("itself", 1, x.alike(7, 7));
        x.buyer(6, 1, 0);
        Check.due("unlike VERSIONS, the same BODY", 1, x.alike(6, 7));
        Check.read(x, "line patch 6 set 0 1;");
        Check.due("by the last LINE", 0, x.alike(6, 7));
        x.buyer(6, 0, 0);
        Check.due("by the last LINE", 0, x.alike(6, 0));
    }

    private static final String SORTS = MAY + LINE + "line plain set 0 1 if 0;" + LINE + "line other set 0 1 if 0;"
            + LINE + "line other set 0 1;" + LINE + "line patch 7 set 0 1 if 0;line plain set 0 1 if 0 and not 0;";

    private static void kindsOfLines() {
        Check.sentence("3: KINDS of LINES: .. It is told as IDLER, if it is that, else as the last that fits");
        MarkedBody x = Check.told(SORTS);
        int[] due = {1, 2, 1, 3, 5, 3, 1, 4, 5};
        for (int line = 0; line < 9; line++) {
            Check.due("kind " + line, due[line], x.kind(line));
        }
        x.end(0);
        x.end(3);
        x.end(7);
        Check.due("an ENDED ALWAYS", 5, x.kind(0));
        Check.due("an ENDED OTHER", 5, x.kind(3));
        Check.due("an ENDED PATCH", 5, x.kind(7));
        Check.due("IDLERS", 5, x.count(4));
    }

    private static void idlers() {
        Check.sentence("3: IDLER: it stands in no BODY of an ALLOWED KIND in THE VERSION");
        MarkedBody x = Check.told(MAY + MAY + "line plain set 0 1 if 0 and 1;");
        Check.due("one BODY", 2, x.kind(0));
        Check.read(x, "law not 0 or not 1;");
        Check.due("of a KIND that is not ALLOWED alone", 5, x.kind(0));
        x = Check.told(MAY + LINE + "line other set 0 2 if 0;");
        Check.due("one BODY is left", 1, x.kind(0));
        Check.read(x, "law 0;");
        Check.due("another in its place in all", 5, x.kind(0));
        x = Check.told(LINE);
        x.version(1);
        Check.due("in THE VERSION", 1, x.kind(0));
        x.end(0);
        Check.due("ENDED in THE VERSION, though it stood in one ahead", 5, x.kind(0));
        Check.due("there still", 1, x.body(0, 0, Check.NONE));
    }

    private static void idlersOfPatches() {
        Check.sentence("3: IDLER: (a patch: of its BUYER, else of none)");
        MarkedBody x = Check.told(LINE + "line patch 2 set 0 2;");
        Check.due("a patch stands in its BUYER's", 4, x.kind(1));
        Check.due("the LINE ahead of it in no one's", 1, x.kind(0));
        x = Check.told("line patch 2 set 0 2;line patch 2 set 0 3;line patch 3 set 0 4;");
        Check.due("another patch of its BUYER in its place", 5, x.kind(0));
        Check.due("another BUYER's leaves it", 4, x.kind(1));
        x = Check.told(MAY + "law not 0;line patch 2 set 0 2 if 0;");
        x.buyer(2, 1, 0);
        Check.due("the BUYER's own KIND does not matter", 5, x.kind(0));
        Check.due("though it stands there", 4, x.who(0));
    }

    private static void takenAs() {
        Check.sentence("3: it is taken as that, or as one above that (an IDLER as LINE or IDLER alone); promise 30: BAD; KIND");
        MarkedBody x = Check.told(SORTS);
        String[] taken = {"110000", "101000", "110000", "101100", "100001", "101100", "110000", "101110", "100001"};
        for (int line = 0; line < 9; line++) {
            for (int kind = 0; kind < 6; kind++) {
                boolean is = taken[line].charAt(kind) == '1';
                Check.due("as " + line + " " + kind, is ? line : Check.KIND, x.as(line, kind));
                Check.due("status", is ? 0 : 3, x.status());
            }
        }
        int[] none = {-1, 6, Check.LEAST, Check.MOST};
        for (int kind : none) {
            Check.due("as 0 " + kind, Check.BAD, x.as(0, kind));
            Check.due("as 9 " + kind, Check.BAD, x.as(9, kind));
            Check.due("status stays", 0, x.status());
        }
        x.end(7);
        Check.due("an ENDED PATCH is none", Check.KIND, x.as(7, 4));
        Check.due("nor a WHEN", Check.KIND, x.as(7, 2));
        Check.due("but a LINE", 7, x.as(7, 0));
        Check.due("and an IDLER", 7, x.as(7, 5));
    }

    private static void asked(MarkedBody x, int line, int what, int due, int... trace) {
        Check.due("ask " + line + " " + what, due, x.ask(line, what));
        for (int i = 0; i < trace.length; i++) {
            Check.due("ask " + line + " " + what + ": trace " + i, trace[i], x.trace(i));
        }
        Check.due("ask " + line + " " + what + ": no more", Check.NONE, x.trace(trace.length));
        Check.due("ask " + line + " " + what + ": no more", Check.NONE, x.trace(15));
    }

    private static void sizes() {
        Check.sentence("4: 0 SIZE: 10 .. 14");
        MarkedBody x = Check.told(SORTS);
        asked(x, 0, 0, 2, 10);
        asked(x, 1, 0, 1 + 1, 11, 10);
        asked(x, 2, 0, 1, 10);
        asked(x, 3, 0, 2 * (1 + 1), 12, 11, 10);
        asked(x, 4, 0, -4, 14, 20);
        asked(x, 5, 0, 2 * (2 + 0), 12, 11, 10);
        asked(x, 7, 0, 2 * (1 + 1) + 7 + 100 + 7, 13, 12, 11, 10, 22, 21, 20);
        asked(x, 8, 0, -8, 14, 20);
        x = Check.told(MAY + MAY + "line patch 0 set 0 1 if 0 and 1 and 1;" + LINE + "line other set 0 1 if 1 or 1;");
        asked(x, 0, 0, 2 * (1 + 3) + 0 + 100 + 0, 13, 12, 11, 10, 22, 21, 20);
        asked(x, 1, 0, 2, 10);
        asked(x, 2, 0, 2 * (2 + 2), 12, 11, 10);
        x = Check.told(MAY.repeat(10) + LINE + "line plain set 0 1 if 0 or 0 or 0 or 0 or 0 or 0 or 0 or 0 or 0 or 0 or 0 or not 0;");
        asked(x, 0, 0, 1024, 10);
        asked(x, 1, 0, 1024 + 12, 11, 10);
        x.end(0);
        asked(x, 0, 0, 0, 14, 20);
    }

    private static void marks() {
        Check.sentence("4: 1 MARK: 20 .. 23");
        MarkedBody x = Check.told(SORTS);
        asked(x, 0, 1, 0 + 2, 23, 20, 10);
        asked(x, 1, 1, 1, 20);
        asked(x, 2, 1, 2 + 1, 23, 20, 10);
        asked(x, 3, 1, 103, 21, 20);
        asked(x, 4, 1, 4, 20);
        asked(x, 5, 1, 105, 21, 20);
        asked(x, 7, 1, 107 + 7, 22, 21, 20);
        asked(x, 8, 1, 8, 20);
        x.end(7);
        asked(x, 7, 1, 7, 20);
        asked(x, 7, 0, -7, 14, 20);
    }

    private static void whatOfAnAsk() {
        Check.sentence("Promise 31: An ASK (0, 1) of a LINE. BAD");
        MarkedBody x = Check.told(LINE);
        asked(x, 0, 0, 1, 10);
        asked(x, 0, 1, 1, 23, 20, 10);
        int[] none = {-1, 2, Check.LEAST, Check.MOST};
        for (int what : none) {
            Check.due("ask " + what, Check.BAD, x.ask(0, what));
            Check.due("ask of no LINE " + what, Check.BAD, x.ask(1, what));
            Check.due("THE TRACE stays", 23, x.trace(0));
            Check.due("THE TRACE stays", 10, x.trace(2));
        }
    }

    private static void traceIsEmpty() {
        Check.sentence("Promise 31: THE TRACE is empty ahead of it");
        MarkedBody x = Check.told(SORTS);
        Check.due("at first", Check.NONE, x.trace(0));
        asked(x, 7, 0, 118, 13, 12, 11, 10, 22, 21, 20);
        for (int i = 0; i < 5; i++) {
            asked(x, 1, 1, 1, 20);
        }
        asked(x, 3, 0, 4, 12, 11, 10);
        x.kind(7);
        x.as(7, 4);
        x.count(4);
        Check.due("other calls leave it", 12, x.trace(0));
        Check.due("other calls leave it", Check.NONE, x.trace(3));
    }

    private static void traceNumbers() {
        Check.sentence("Promise 32: Number i of THE TRACE; NONE");
        MarkedBody x = Check.told(SORTS);
        int[] none = {-1, 7, 8, 15, 16, 17, Check.LEAST, Check.MOST};
        for (int i : none) {
            Check.due("at first " + i, Check.NONE, x.trace(i));
        }
        x.ask(7, 0);
        Check.due("the first", 13, x.trace(0));
        Check.due("the last", 20, x.trace(6));
        for (int i : none) {
            Check.due("trace " + i, Check.NONE, x.trace(i));
        }
    }

    private static void counts() {
        Check.sentence("Promise 33: How many: 0 SHEETS .. 7 THE VERSION. BAD");
        MarkedBody x = Check.told(SORTS + "law 0 or not 0;law 0 or not 0;law 0 or not 0;");
        x.sheet(0, 0, 0);
        x.sheet(7, 0, 40);
        x.version(6);
        Check.read(x, "line patch 1 set 0 1;" + MAY);
        x.feed(0, 8);
        int[] due = {2, 2, 3, 10, 2, 2, 8, 6};
        for (int what = 0; what < 8; what++) {
            Check.due("count " + what, due[what], x.count(what));
        }
        int[] none = {-1, 8, Check.LEAST, Check.MOST};
        for (int what : none) {
            Check.due("count " + what, Check.BAD, x.count(what));
        }
        Check.due("the first LINE, a patch", 1, Check.told("line patch 0 set 0 1;").count(5));
        Check.due("all are patches", 23, Check.told("line patch 0 set 0 1;".repeat(23)).count(5));
        x.end(7);
        Check.due("an ENDED patch is one still", 2, x.count(5));
        Check.due("and an IDLER", 3, x.count(4));
        Check.due("and a LINE", 10, x.count(3));
    }

    private static void callsOfAnObject() {
        Check.sentence("What it is: An object is used for at most 512 calls after it has been made");
        MarkedBody x = new MarkedBody();
        Check.feed(x, MAY + LINE);
        x.read();
        for (int call = 7; call <= 512; call++) {
            int got = call % 4 == 0 ? x.ask(0, 1) : call % 4 == 1 ? x.trace(2) : call % 4 == 2 ? x.many() : x.ends(0);
            int due = call % 4 == 0 ? 2 : call % 4 == 1 ? 10 : call % 4 == 2 ? 2 : 1;
            if (call > 8) {
                Check.due("call " + call, due, got);
            }
        }
    }
}
