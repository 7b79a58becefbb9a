import java.util.function.Consumer;

/** "What is refused, or found, changes nothing but status()": each call in each way it can be refused. */
public final class RefusedTest {
    private static final int NO_ONE = MarkedBody.NONE;
    private static Consumer<MarkedBody> tell;

    public static void main(String[] args) {
        Check.sentence("Terms: What is refused, or found, changes nothing but status()");
        tell = RefusedTest::tellMuch;
        refusedSheets();
        findings();
        refusedKinds();
        refusedLines();
        refusedBuyers();
        tell = RefusedTest::fillUp;
        refusedOfFull();
        tell = x -> { };
        refusedOfNew();
        Check.sentence("Terms: the first of these that fits: BAD, STATE, FULL, then FINDINGS, of several the first in time");
        firstThatFits();
        Check.sentence("Promise 7: nothing comes");
        tell = RefusedTest::tellMuch;
        faults();
        tell = RefusedTest::fillUp;
        faultsOfFull();
        Check.end();
    }

    /** Something of all there is: LINES of each sort, an ENDED one, SHEETS, BUYERS, a TRACE, a FAULT, bytes. */
    private static void tellMuch(MarkedBody x) {
        Check.read(x, "mark root must;mark 0 may;mark 0 one;mark 0 one;law not 1 or 2;line plain set 0 7;"
                + "line plain add 0 4 if 1;line other set 0 9 if 2 and not 1;line patch 3 mul 0 0;line plain sum 1 0;");
        x.version(2);
        Check.read(x, "line plain set 1 3 if 0 and 0;line patch 0 set 2 8 if 1;line plain add 0 1 if 3;");
        x.end(1);
        x.version(4);
        x.sheet(0, 0, 5);
        x.sheet(1, 1, 3);
        x.sheet(2, 2, 12);
        x.sheet(4, 2, 0);
        for (int i = 0; i < 12; i++) {
            x.set(i % 3, i / 3, 15 - i);
        }
        x.set(2, 10, 16);
        x.set(2, 11, -1);
        x.buyers(2, 0, 3);
        x.buyer(5, 3, 1);
        x.ends(-1);
        x.hold(-1);
        Check.read(x, "law 99;");
        x.ask(3, 0);
        x.as(0, 4);
        Check.feed(x, "line other add 0 6 i");
    }

    private static void fillUp(MarkedBody x) {
        Check.read(x, "mark root may;".repeat(9) + "mark 0 one;" + "law 0 or not 1;".repeat(7) + "law 2;");
        Check.read(x, "line plain set 0 7;".repeat(23) + "line patch 6 add 1 9 if 1;");
        for (int s = 0; s < 8; s++) {
            x.sheet(s, s % 3, 40);
            x.set(s, 39, s);
        }
        x.version(9);
        x.end(22);
        Check.feed(x, "  " + "\n".repeat(497) + "x");
    }

    private static void refusedSheets() {
        Twins.refused("sheet 8", tell, x -> x.sheet(8, 0, 1), Check.BAD);
        Twins.refused("sheet -1", tell, x -> x.sheet(-1, 0, -1), Check.BAD);
        Twins.refused("lane 3", tell, x -> x.sheet(2, 3, 1), Check.BAD);
        Twins.refused("lane -1", tell, x -> x.sheet(2, -1, -1), Check.BAD);
        Twins.refused("41 items", tell, x -> x.sheet(2, 0, 41), Check.BAD);
        Twins.refused("41 items of a missing one", tell, x -> x.sheet(3, 0, 41), Check.BAD);
        Twins.refused("set in 8", tell, x -> x.set(8, 0, 1), Check.BAD);
        Twins.refused("set in -1", tell, x -> x.set(-1, 0, 1), Check.BAD);
        Twins.refused("copy from 8", tell, x -> x.copy(8, 0, 2, 0, 1), Check.BAD);
        Twins.refused("copy to 8", tell, x -> x.copy(2, 0, 8, 0, 1), Check.BAD);
        Twins.refused("copy to -1", tell, x -> x.copy(3, 0, -1, 0, 1), Check.BAD);
        Twins.refused("drop 8", tell, x -> x.drop(8), Check.BAD);
        Twins.refused("drop -1", tell, x -> x.drop(-1), Check.BAD);
        Twins.refused("feed of 0", tell, x -> x.feed(120, 0), Check.BAD);
        Twins.refused("feed of 9", tell, x -> x.feed(120, 9), Check.BAD);
        Twins.refused("feed of -1", tell, x -> x.feed(120, -1), Check.BAD);
    }

    private static void findings() {
        Twins.refused("fewer than none", tell, x -> x.sheet(2, 0, -1), Check.SIZE);
        Twins.refused("fewer than none of a missing one", tell, x -> x.sheet(3, 0, -40), Check.SIZE);
        Twins.refused("set in a missing one", tell, x -> x.set(3, 0, 1), Check.NULL);
        Twins.refused("set behind the last", tell, x -> x.set(2, 12, 1), Check.PLACE);
        Twins.refused("set ahead of the first", tell, x -> x.set(2, -1, 1), Check.PLACE);
        Twins.refused("set in an empty one", tell, x -> x.set(4, 0, 1), Check.PLACE);
        Twins.refused("copy from a missing one", tell, x -> x.copy(3, 0, 2, 0, 1), Check.NULL);
        Twins.refused("copy to a missing one", tell, x -> x.copy(2, 0, 3, 0, 1), Check.NULL);
        Twins.refused("copy to another lane", tell, x -> x.copy(2, 0, 1, 0, 1), Check.STORE);
        Twins.refused("copy of -1", tell, x -> x.copy(2, 3, 2, 0, -1), Check.PLACE);
        Twins.refused("copy from behind", tell, x -> x.copy(2, 11, 2, 0, 2), Check.PLACE);
        Twins.refused("copy to behind", tell, x -> x.copy(2, 0, 2, 11, 2), Check.PLACE);
        Twins.refused("drop of a missing one", tell, x -> x.drop(3), Check.NULL);
        Twins.refused("buyers of a missing one", tell, x -> x.buyers(3, 0, 8), Check.NULL);
        Twins.refused("buyers from behind", tell, x -> x.buyers(2, 5, 8), Check.PLACE);
        Twins.refused("buyers from ahead", tell, x -> x.buyers(2, -1, 8), Check.PLACE);
        Twins.refused("as a patch", tell, x -> x.as(0, 4), Check.KIND);
        Twins.refused("as an idler", tell, x -> x.as(0, 5), Check.KIND);
        Twins.refused("an idler as a when", tell, x -> x.as(1, 2), Check.KIND);
    }

    private static void refusedKinds() {
        Twins.refused("allowed 16", tell, x -> x.allowed(16), Check.BAD);
        Twins.refused("allowed -1", tell, x -> x.allowed(-1), Check.BAD);
        Twins.refused("holds of 2", tell, x -> x.holds(2, 0, 0), Check.BAD);
        Twins.refused("holds of no law", tell, x -> x.holds(0, 1, 0), Check.BAD);
        Twins.refused("holds of no line", tell, x -> x.holds(1, 8, 0), Check.BAD);
        Twins.refused("holds of 16", tell, x -> x.holds(0, 0, 16), Check.BAD);
        Twins.refused("idle 3", tell, x -> x.idle(3), Check.BAD);
        Twins.refused("forced on 16", tell, x -> x.forced(16, 0, 0), Check.BAD);
        Twins.refused("forced off 16", tell, x -> x.forced(0, 16, 1), Check.BAD);
        Twins.refused("forced both", tell, x -> x.forced(4, 12, 0), Check.BAD);
        Twins.refused("forced 2", tell, x -> x.forced(0, 0, 2), Check.BAD);
        Twins.refused("nearest 16", tell, x -> x.nearest(16), Check.BAD);
        Twins.refused("why on 16", tell, x -> x.why(16, 0), Check.BAD);
        Twins.refused("why both", tell, x -> x.why(1, 1), Check.BAD);
    }

    private static void refusedLines() {
        Twins.refused("version below", tell, x -> x.version(3), Check.BAD);
        Twins.refused("version 10", tell, x -> x.version(10), Check.BAD);
        Twins.refused("version -1", tell, x -> x.version(-1), Check.BAD);
        Twins.refused("end of no line", tell, x -> x.end(8), Check.BAD);
        Twins.refused("end of -1", tell, x -> x.end(-1), Check.BAD);
        Twins.refused("end again", tell, x -> x.end(1), Check.STATE);
        Twins.refused("line 8", tell, x -> x.line(8, 0), Check.BAD);
        Twins.refused("line what 5", tell, x -> x.line(0, 5), Check.BAD);
        Twins.refused("body of 16", tell, x -> x.body(16, 0, NO_ONE), Check.BAD);
        Twins.refused("body in 10", tell, x -> x.body(0, 10, NO_ONE), Check.BAD);
        Twins.refused("body of buyer 8", tell, x -> x.body(0, 0, 8), Check.BAD);
        Twins.refused("run of 16", tell, x -> x.run(16, 0, NO_ONE, 0), Check.BAD);
        Twins.refused("run in -1", tell, x -> x.run(0, -1, NO_ONE, 0), Check.BAD);
        Twins.refused("run of buyer -1", tell, x -> x.run(0, 0, -1, 0), Check.BAD);
        Twins.refused("run what 5", tell, x -> x.run(0, 0, NO_ONE, 5), Check.BAD);
        Twins.refused("ends -2", tell, x -> x.ends(-2), Check.BAD);
        Twins.refused("together alike", tell, x -> x.together(1, 1), Check.BAD);
        Twins.refused("together 4", tell, x -> x.together(0, 4), Check.BAD);
        Twins.refused("hold -2", tell, x -> x.hold(-2), Check.BAD);
        Twins.refused("failing 1000", tell, x -> x.failing(1000, 0), Check.BAD);
        Twins.refused("failing -1", tell, x -> x.failing(-1, 1), Check.BAD);
        Twins.refused("failing what 2", tell, x -> x.failing(0, 2), Check.BAD);
    }

    private static void refusedBuyers() {
        Twins.refused("buyer 8", tell, x -> x.buyer(8, 1, 1), Check.BAD);
        Twins.refused("buyer -1", tell, x -> x.buyer(-1, 1, 1), Check.BAD);
        Twins.refused("buyer of 16", tell, x -> x.buyer(0, 16, 1), Check.BAD);
        Twins.refused("buyer in 10", tell, x -> x.buyer(0, 1, 10), Check.BAD);
        Twins.refused("buyers of sheet 8", tell, x -> x.buyers(8, 0, 1), Check.BAD);
        Twins.refused("buyers 0", tell, x -> x.buyers(2, 0, 0), Check.BAD);
        Twins.refused("buyers 9", tell, x -> x.buyers(2, 0, 9), Check.BAD);
        Twins.refused("buyers: the last item", tell, x -> x.buyers(2, 3, 8), Check.BAD);
        Twins.refused("buyers: the first item", tell, x -> x.buyers(2, 10, 2), Check.BAD);
        Twins.refused("buyers: an item below 0", tell, x -> x.buyers(2, 11, 1), Check.BAD);
        Twins.refused("who 8", tell, x -> x.who(8), Check.BAD);
        Twins.refused("alike 8", tell, x -> x.alike(0, 8), Check.BAD);
        Twins.refused("kind 8", tell, x -> x.kind(8), Check.BAD);
        Twins.refused("as 8", tell, x -> x.as(8, 0), Check.BAD);
        Twins.refused("as kind 6", tell, x -> x.as(0, 6), Check.BAD);
        Twins.refused("ask 8", tell, x -> x.ask(8, 0), Check.BAD);
        Twins.refused("ask what 2", tell, x -> x.ask(0, 2), Check.BAD);
        Twins.refused("ask what -1", tell, x -> x.ask(0, -1), Check.BAD);
        Twins.refused("count 8", tell, x -> x.count(8), Check.BAD);
        Twins.refused("trace -1", tell, x -> x.trace(-1), Check.NONE);
    }

    private static void refusedOfFull() {
        Twins.refused("feed into a full tape", tell, x -> x.feed(120, 1), Check.FULL);
        Twins.refused("feed of 8 into a full tape", tell, x -> x.feed(Check.word("line oth"), 8), Check.FULL);
        Twins.refused("feed of 9 into a full tape", tell, x -> x.feed(120, 9), Check.BAD);
        Twins.refused("version 10", tell, x -> x.version(10), Check.BAD);
        Twins.refused("version 8", tell, x -> x.version(8), Check.BAD);
        Twins.refused("end again", tell, x -> x.end(22), Check.STATE);
        Twins.refused("end 24", tell, x -> x.end(24), Check.BAD);
        Twins.refused("buyer of 1024", tell, x -> x.buyer(0, 1024, 0), Check.BAD);
        Twins.refused("the 41st item", tell, x -> x.set(7, 40, 1), Check.PLACE);
        Twins.refused("copy of 41", tell, x -> x.copy(0, 0, 3, 0, 41), Check.PLACE);
        Twins.refused("copy of two lanes", tell, x -> x.copy(0, 0, 1, 0, 40), Check.STORE);
        Twins.refused("an idler as always", tell, x -> x.as(22, 1), Check.KIND);
    }

    private static void refusedOfNew() {
        Twins.refused("set", tell, x -> x.set(0, 0, 0), Check.NULL);
        Twins.refused("copy", tell, x -> x.copy(0, 0, 0, 0, 0), Check.NULL);
        Twins.refused("drop", tell, x -> x.drop(7), Check.NULL);
        Twins.refused("buyers", tell, x -> x.buyers(0, 0, 1), Check.NULL);
        Twins.refused("sheet", tell, x -> x.sheet(0, 0, -1), Check.SIZE);
        Twins.refused("end", tell, x -> x.end(0), Check.BAD);
        Twins.refused("buyer", tell, x -> x.buyer(0, 1, 1), Check.BAD);
        Twins.refused("as", tell, x -> x.as(0, 0), Check.BAD);
        Twins.refused("ask", tell, x -> x.ask(0, 0), Check.BAD);
    }

    private static void firstThatFits() {
        tell = RefusedTest::tellMuch;
        Twins.refused("BAD ahead of SIZE: sheet", tell, x -> x.sheet(8, 0, -1), Check.BAD);
        Twins.refused("BAD ahead of SIZE: lane", tell, x -> x.sheet(2, 3, -1), Check.BAD);
        Twins.refused("BAD ahead of PLACE: set", tell, x -> x.set(8, -1, 0), Check.BAD);
        Twins.refused("NULL ahead of PLACE: set", tell, x -> x.set(3, -1, 0), Check.NULL);
        Twins.refused("BAD ahead of NULL: copy", tell, x -> x.copy(3, -1, 8, -1, -1), Check.BAD);
        Twins.refused("BAD ahead of NULL: copy", tell, x -> x.copy(8, -1, 3, -1, -1), Check.BAD);
        Twins.refused("NULL ahead of PLACE: copy", tell, x -> x.copy(2, -1, 3, -1, -1), Check.NULL);
        Twins.refused("STORE ahead of PLACE: copy", tell, x -> x.copy(0, -1, 1, 99, -1), Check.STORE);
        Twins.refused("BAD ahead of NULL: buyers", tell, x -> x.buyers(3, 0, 9), Check.BAD);
        Twins.refused("NULL ahead of PLACE: buyers", tell, x -> x.buyers(3, -1, 8), Check.NULL);
        Twins.refused("BAD ahead of PLACE: buyers", tell, x -> x.buyers(2, -1, 0), Check.BAD);
        Twins.refused("PLACE ahead of an ITEM: buyers", tell, x -> x.buyers(2, 10, 3), Check.PLACE);
        Twins.refused("BAD ahead of KIND: as", tell, x -> x.as(8, 4), Check.BAD);
        Twins.refused("BAD ahead of KIND: as", tell, x -> x.as(0, -1), Check.BAD);
        Twins.refused("BAD ahead of NONE: forced", tell, x -> x.forced(0, 1, 2), Check.BAD);
        tell = RefusedTest::fillUp;
        Twins.refused("BAD ahead of FULL: feed", tell, x -> x.feed(32, 0), Check.BAD);
        Twins.refused("FULL: feed", tell, x -> x.feed(32, 8), Check.FULL);
        Twins.refused("STATE: end", tell, x -> x.end(22), Check.STATE);
    }

    private static void faults() {
        Twins.faulty("mark root must;law 4 and not 0;line other set 0 1 if 4;x", tell, 55, 1);
        Twins.faulty("mark 4 may;", tell, 5, 2);
        Twins.faulty("law not 0;law not 0;law 4;", tell, 24, 2);
        Twins.faulty("line other set 0 99;line patch 0 set 0 1;line plain mul 0 0 if 1 and", tell, 68, 1);
        Twins.faulty("line patch 5 add 3 3 if 0 and 1 or 2 or 3;line plain set 4 0;", tell, 57, 2);
        Twins.faulty("mark root may;".repeat(7), tell, 84, 3);
        Twins.faulty("law not 0;".repeat(8), tell, 70, 3);
        Twins.faulty("line other set 0 1;".repeat(17), tell, 304, 3);
        Twins.faulty("law not not not not not not 0;", tell, 24, 3);
        Twins.faulty("line other set 0 2 if 0 or 0 or 0 or 0 or 0 or 0 or 0 or 0 or 0 or 0 or 0 or 0 or 0;", tell, 82, 3);
    }

    private static void faultsOfFull() {
        Twins.faulty("mark root must;", tell, 0, 3);
        Twins.faulty("law not 2;", tell, 0, 3);
        Twins.faulty("line other set 0 99;", tell, 0, 3);
        Twins.faulty(";", tell, 0, 1);
    }
}
