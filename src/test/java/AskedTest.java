/** Promises 25 to 33: BUYERS, KINDS of LINES, ASKS, THE TRACE, counts. */
public final class AskedTest {
    private static final String TEXT = "mark root may;mark root may;line plain set 0 1;line plain set 0 2 if 0;"
            + "line other set 0 3 if 0 and 1 and 1;line patch 3 set 0 4 if 1;line plain set 0 5 if 0 and not 0;"
            + "line patch 6 set 0 6;";

    public static void main(String[] args) {
        buyer();
        buyers();
        whoAndAlike();
        kindAndAs();
        ask();
        counts();
        Check.end();
    }

    private static void buyer() {
        MarkedBody x = Check.told(TEXT);
        Check.due("buyer", Check.BAD, x.buyer(8, 0, 0));
        Check.due("buyer", Check.BAD, x.buyer(-1, 0, 0));
        Check.due("none", Check.BAD, x.buyer(Check.NONE, 0, 0));
        Check.due("kind", Check.BAD, x.buyer(0, 4, 0));
        Check.due("version", Check.BAD, x.buyer(0, 0, 10));
        Check.due("version", Check.BAD, x.buyer(0, 0, -1));
        Check.due("a later version", 1, x.buyer(7, 3, 9));
        Check.due("it has them", 1 << 7, x.who(2));
        Check.read(x, "law not 1;");
        Check.due("it need not be allowed", 1, x.buyer(1, 3, 0));
        Check.due("it has them", 1 << 7 | 1 << 1, x.who(2));
    }

    private static void buyers() {
        MarkedBody x = Check.told(TEXT);
        Check.due("sheet", Check.BAD, x.buyers(8, 0, 1));
        Check.due("n", Check.BAD, x.buyers(0, 0, 0));
        Check.due("n", Check.BAD, x.buyers(0, 0, 9));
        Check.due("null", Check.NULL, x.buyers(0, 0, 8));
        x.sheet(0, 0, 9);
        Check.due("place", Check.PLACE, x.buyers(0, 2, 8));
        Check.due("place", Check.PLACE, x.buyers(0, -1, 8));
        Check.due("place", Check.PLACE, x.buyers(0, Integer.MAX_VALUE, 8));
        x.set(0, 1, 1);
        x.set(0, 2, 3);
        x.set(0, 8, 4);
        Check.due("an item", Check.BAD, x.buyers(0, 1, 8));
        Check.due("an item behind them is not looked at", 2, x.buyers(0, 6, 2));
        Check.due("nothing came", 0, x.who(1));
        x.set(0, 8, -1);
        Check.due("an item below 0", Check.BAD, x.buyers(0, 1, 8));
        x.set(0, 8, 1);
        x.version(2);
        x.end(0);
        Check.due("eight", 8, x.buyers(0, 1, 8));
        Check.due("kinds", 1 << 0 | 1 << 7, x.who(1));
        Check.due("in the version", 0, x.who(0));
        x.buyer(5, 0, 1);
        Check.due("in an earlier version", 1 << 5, x.who(0));
        Check.due("one", 1, x.buyers(0, 0, 1));
        Check.due("the rest stay", 1 << 7, x.who(1));
    }

    private static void whoAndAlike() {
        MarkedBody x = Check.told(TEXT);
        Check.due("line", Check.BAD, x.who(6));
        Check.due("line", Check.BAD, x.who(-1));
        Check.due("all", 255, x.who(0));
        Check.due("the patch's buyer", 1 << 6, x.who(5));
        x.buyer(3, 2, 0);
        x.buyer(4, 2, 0);
        Check.due("a patch", 1 << 3, x.who(3));
        Check.due("buyer", Check.BAD, x.alike(0, 8));
        Check.due("buyer", Check.BAD, x.alike(-1, 0));
        Check.due("a patch makes unlike", 0, x.alike(3, 4));
        Check.due("unlike kinds, the same body", 1, x.alike(0, 4));
        Check.due("itself", 1, x.alike(3, 3));
        x.buyer(1, 1, 0);
        Check.due("unlike", 0, x.alike(0, 1));
    }

    private static void kindAndAs() {
        MarkedBody x = Check.told(TEXT);
        Check.due("bad", Check.BAD, x.kind(6));
        Check.due("bad", Check.BAD, x.kind(-1));
        int[] kinds = {1, 2, 3, 4, 5, 4};
        String[] taken = {"110000", "101000", "101100", "101110", "100001", "101110"};
        for (int line = 0; line < 6; line++) {
            Check.due("kind of " + line, kinds[line], x.kind(line));
            for (int kind = 0; kind < 6; kind++) {
                int due = taken[line].charAt(kind) == '1' ? line : Check.KIND;
                Check.due("as " + line + " " + kind, due, x.as(line, kind));
                Check.due("status", due == line ? 0 : 3, x.status());
            }
        }
        Check.due("bad", Check.BAD, x.as(0, 6));
        Check.due("bad", Check.BAD, x.as(0, -1));
        Check.due("bad", Check.BAD, x.as(6, 0));
        x.end(2);
        Check.due("an ended one is an idler", 5, x.kind(2));
        Check.due("as a line or an idler", Check.KIND, x.as(2, 3));
        Check.read(x, "line other set 0 1;line plain set 0 1;line patch 1 set 0 9;");
        Check.due("patch 6 is no longer its buyer's", 5, x.kind(5));
        Check.due("other without a saying", 3, x.kind(6));
        Check.due("a patch replaces none in no buyer's body", 1, x.kind(7));
        Check.read(x, "law 0 and not 0;");
        for (int line = 0; line < 9; line++) {
            Check.due("of no kinds", 5, x.kind(line));
        }
    }

    private static void trace(MarkedBody x, String call, int... due) {
        for (int i = 0; i < 20; i++) {
            Check.due(call + " trace " + i, i < due.length ? due[i] : Check.NONE, x.trace(i));
        }
        Check.due(call + " trace -1", Check.NONE, x.trace(-1));
    }

    private static void ask() {
        MarkedBody x = Check.told(TEXT);
        Check.due("always", 4, x.ask(0, 0));
        trace(x, "always", 10);
        Check.due("always", 4, x.ask(0, 1));
        trace(x, "always", 23, 20, 10);
        Check.due("when: kind 1, and one mark", 2, x.ask(1, 0));
        trace(x, "when", 11, 10);
        Check.due("when", 1, x.ask(1, 1));
        trace(x, "when", 20);
        Check.due("other: kind 3, three marks, twice", 8, x.ask(2, 0));
        trace(x, "other", 12, 11, 10);
        Check.due("other", 102, x.ask(2, 1));
        trace(x, "other", 21, 20);
        Check.due("patch: (2 + 1) * 2 + 106", 112, x.ask(3, 0));
        trace(x, "patch", 13, 12, 11, 10, 22, 21, 20);
        Check.due("patch", 106, x.ask(3, 1));
        trace(x, "patch", 22, 21, 20);
        Check.due("idler", -4, x.ask(4, 0));
        trace(x, "idler", 14, 20);
        Check.due("idler", 4, x.ask(4, 1));
        trace(x, "idler", 20);
        Check.due("bad", Check.BAD, x.ask(6, 0));
        Check.due("bad", Check.BAD, x.ask(-1, 0));
        Check.due("bad", Check.BAD, x.ask(0, 2));
        Check.due("bad", Check.BAD, x.ask(0, -1));
        trace(x, "what is refused changes nothing", 20);
        x.end(5);
        Check.due("an ended patch", -5, x.ask(5, 0));
        trace(x, "an ended patch", 14, 20);
    }

    private static void counts() {
        MarkedBody x = Check.told(TEXT);
        Check.read(x, "law 0;");
        x.sheet(3, 0, 1);
        x.sheet(4, 0, 0);
        x.sheet(5, 0, 1);
        x.drop(5);
        x.version(4);
        x.feed(0, 5);
        int[] due = {2, 2, 1, 6, 1, 2, 5, 4};
        for (int what = 0; what < 8; what++) {
            Check.due("count " + what, due[what], x.count(what));
        }
        Check.due("bad", Check.BAD, x.count(8));
        Check.due("bad", Check.BAD, x.count(-1));
    }
}
