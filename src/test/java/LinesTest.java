/** Promises 16 to 24: LINES, BODIES, RUNS, ENDS and what they tell. */
public final class LinesTest {
    private static final String THREE = "mark root may;mark root may;mark root may;";

    public static void main(String[] args) {
        versions();
        line();
        body();
        run();
        ends();
        together();
        hold();
        failing();
        Check.end();
    }

    private static void versions() {
        MarkedBody x = Check.told("line plain set 0 1;line plain set 0 2;");
        Check.due("bad", Check.BAD, x.version(-1));
        Check.due("bad", Check.BAD, x.version(10));
        Check.due("what it was", 0, x.version(3));
        Check.due("the same again", 3, x.version(3));
        Check.due("below", Check.BAD, x.version(2));
        Check.read(x, "line plain set 0 3;");
        Check.due("from", 3, x.line(2, 2));
        Check.due("bad", Check.BAD, x.end(3));
        Check.due("bad", Check.BAD, x.end(-1));
        Check.due("ended", 1, x.end(0));
        Check.due("once", Check.STATE, x.end(0));
        Check.due("in its first version", 1, x.end(2));
        Check.due("up", 3, x.version(9));
        Check.due("the last", 9, x.count(7));
        Check.due("ended", 1, x.end(1));
        Check.due("2", 0b011, x.body(0, 2, Check.NONE));
        Check.due("3", 0b010, x.body(0, 3, Check.NONE));
        Check.due("8", 0b010, x.body(0, 8, Check.NONE));
        Check.due("9", 0, x.body(0, 9, Check.NONE));
        Check.due("ended from", 3, x.line(0, 3));
        Check.due("ended from", 9, x.line(1, 3));
    }

    private static void line() {
        MarkedBody x = Check.told(THREE + "line plain set 0 1;line other set 0 1 if 0 and not 0 or 1;"
                + "line patch 5 set 0 1;");
        Check.due("plain", 0, x.line(0, 0));
        Check.due("other", 1, x.line(1, 0));
        Check.due("patch", 2, x.line(2, 0));
        Check.due("no buyer", Check.NONE, x.line(0, 1));
        Check.due("no buyer", Check.NONE, x.line(1, 1));
        Check.due("buyer", 5, x.line(2, 1));
        Check.due("from", 0, x.line(0, 2));
        Check.due("not ended", Check.NONE, x.line(0, 3));
        Check.due("no saying", 0, x.line(0, 4));
        Check.due("each time counts", 3, x.line(1, 4));
        Check.due("bad", Check.BAD, x.line(0, 5));
        Check.due("bad", Check.BAD, x.line(0, -1));
        Check.due("bad", Check.BAD, x.line(3, 0));
        Check.due("bad", Check.BAD, x.line(-1, 0));
    }

    private static void body() {
        MarkedBody x = Check.told(THREE + "line other set 0 1;line plain set 0 2;line other set 0 3 if 0;"
                + "line other set 0 4 if 1;line patch 2 set 0 5 if 2;line patch 3 set 0 6;");
        Check.due("plain ones", 0b000011, x.body(0, 0, Check.NONE));
        Check.due("in its place", 0b000101, x.body(1, 0, Check.NONE));
        Check.due("not the next lower one", 0b001011, x.body(2, 0, Check.NONE));
        Check.due("one that is replaced still replaces", 0b001001, x.body(3, 0, Check.NONE));
        Check.due("patches of none", 0b001001, x.body(7, 0, Check.NONE));
        Check.due("of another", 0b001001, x.body(7, 0, 0));
        Check.due("a patch", 0b010001, x.body(7, 0, 2));
        Check.due("a patch whose saying does not hold", 0b001001, x.body(3, 0, 2));
        Check.due("the line ahead need not be meant", 0b101001, x.body(3, 0, 3));
        x.version(1);
        x.end(2);
        Check.due("an ended one replaces nothing", 0b000011, x.body(1, 1, Check.NONE));
        Check.due("before it was", 0b000101, x.body(1, 0, Check.NONE));
        Check.due("kind", Check.BAD, x.body(8, 0, 0));
        Check.due("kind", Check.BAD, x.body(-1, 0, 0));
        Check.due("version", Check.BAD, x.body(0, 10, 0));
        Check.due("version", Check.BAD, x.body(0, -1, 0));
        Check.due("buyer", Check.BAD, x.body(0, 0, 8));
        Check.due("buyer", Check.BAD, x.body(0, 0, -1));
        x = new MarkedBody();
        for (int i = 0; i < 24; i++) {
            Check.read(x, "line plain set 0 1;");
        }
        Check.due("all of 24", (1 << 24) - 1, x.body(0, 0, Check.NONE));
    }

    private static void run() {
        MarkedBody x = Check.told("mark root may;line plain set 0 99;line plain mul 0 0;line plain mul 0 0;"
                + "line plain set 1 7;line plain sum 0 1;line plain add 2 98 if 0;line plain sum 1 3;"
                + "line plain add 2 5;line plain mul 3 3;");
        // 99, 9801 mod 1000 = 801, 641601 mod 1000 = 601, and 7
        Check.due("cell 0", 608, x.run(0, 0, Check.NONE, 0));
        Check.due("cell 1", 7, x.run(0, 0, Check.NONE, 1));
        Check.due("cell 2", 5, x.run(0, 0, Check.NONE, 2));
        Check.due("cell 2, done all the same", 103, x.run(1, 0, Check.NONE, 2));
        Check.due("cell 3", 0, x.run(0, 0, Check.NONE, 3));
        Check.due("fault: the second cell", 6, x.run(0, 0, Check.NONE, 4));
        Check.due("fault: the first one", 5, x.run(1, 0, Check.NONE, 4));
        Check.due("what", Check.BAD, x.run(0, 0, Check.NONE, 5));
        Check.due("what", Check.BAD, x.run(0, 0, Check.NONE, -1));
        Check.due("kind", Check.BAD, x.run(2, 0, Check.NONE, 0));
        Check.due("version", Check.BAD, x.run(0, 10, Check.NONE, 0));
        Check.due("buyer", Check.BAD, x.run(0, 0, 8, 0));
        x = Check.told("line plain set 0 9;line patch 1 add 0 1;line plain add 0 0;");
        Check.due("of a buyer", 1, x.run(0, 0, 1, 0));
        Check.due("add does not set", 1, x.run(0, 0, 1, 4));
        Check.due("of none", 9, x.run(0, 0, Check.NONE, 0));
        Check.due("no fault", Check.NONE, x.run(0, 0, Check.NONE, 4));
        x = Check.told("line plain set 1 3;line plain sum 0 1;line plain sum 0 1;");
        Check.due("sum does not set", 1, x.run(0, 0, Check.NONE, 4));
        Check.due("sum", 6, x.run(0, 0, Check.NONE, 0));
    }

    private static void ends() {
        MarkedBody x = Check.told(THREE + "law not 2;line plain set 0 7;line plain set 0 3 if 0;"
                + "line plain add 0 4 if 1;line plain set 0 90 if 2;");
        Check.due("bad", Check.BAD, x.ends(-2));
        Check.due("3, 7, 7, 11", 3, x.ends(-1));
        Check.due("0", 3, x.ends(0));
        Check.due("1", 7, x.ends(1));
        Check.due("2", 11, x.ends(2));
        Check.due("3", Check.NONE, x.ends(3));
        Check.due("far", Check.NONE, x.ends(Integer.MAX_VALUE));
        Check.read(x, "line patch 0 set 0 50;");
        Check.due("patches of no buyer", 3, x.ends(-1));
        x.end(1);
        Check.due("ended: 7, 11", 2, x.ends(-1));
        x.version(1);
        Check.read(x, "line plain mul 0 0;");
        Check.due("49", 49, x.ends(0));
        Check.due("121", 121, x.ends(1));
        Check.read(x, "law 2;");
        Check.due("of no kinds", 0, x.ends(-1));
        Check.due("of no kinds", Check.NONE, x.ends(0));
    }

    private static void together() {
        MarkedBody x = Check.told(THREE + "line plain set 0 10;line plain add 0 1 if 0;line plain add 0 2 if 1;"
                + "line plain add 0 5 if 0 and 1 and 2;");
        Check.due("least kind", 7, x.together(0, 1));
        Check.due("either way", 7, x.together(1, 0));
        Check.due("alike", Check.BAD, x.together(1, 1));
        Check.due("not there", Check.BAD, x.together(3, 0));
        Check.due("not there", Check.BAD, x.together(0, -1));
        x.end(3);
        Check.due("none", Check.NONE, x.together(0, 1));
        Check.read(x, "line plain mul 0 0 if 2;");
        Check.due("12 * 12 and 10 * 10 beside", 7, x.together(0, 1));
        Check.due("0 and 2", 5, x.together(0, 2));
        Check.read(x, "law not (not 0 and not 1 and not 2);");
        Check.due("one of the four is barred", 7, x.together(0, 2));
        Check.read(x, "law not 0 or 1;");
        Check.due("all are barred", Check.NONE, x.together(0, 1));
        String[] barred = {"not 0 and not 1", "0 and not 1", "not 0 and 1", "0 and 1"};
        for (String one : barred) {
            x = Check.told("mark root may;mark root may;line plain set 0 5;law not (" + one + ");");
            Check.due("barred: " + one, Check.NONE, x.together(0, 1));
            Check.due("barred: " + one, Check.NONE, x.together(1, 0));
        }
    }

    private static void hold() {
        MarkedBody x = Check.told(THREE);
        int[] due = {4, 0, 3, 5, 6};
        for (int i = -1; i < 4; i++) {
            Check.due("hold " + i, due[i + 1], x.hold(i));
        }
        Check.due("no more", Check.NONE, x.hold(4));
        Check.due("bad", Check.BAD, x.hold(-2));
        Check.due("the highest kind", 3, Check.told("mark root must;mark root must;").hold(0));
        Check.due("one mark has no pairs", 0, Check.told("mark root may;").hold(-1));
        Check.read(x, "law not (0 and 1);");
        Check.due("anew behind a text", 5, x.hold(-1));
        Check.due("first", 0, x.hold(0));
        Check.due("second", 5, x.hold(1));
        Check.due("third", 6, x.hold(2));
        Check.due("fourth", 1, x.hold(3));
        Check.due("fifth", 2, x.hold(4));
        Check.read(x, "law 0 and 1;");
        Check.due("none", 0, x.hold(-1));
        Check.due("none", Check.NONE, x.hold(0));
    }

    private static void failing() {
        MarkedBody x = Check.told(THREE + "line plain set 0 1;line plain set 0 2 if 0 and not 1;"
                + "line plain set 0 3 if 2;");
        Check.due("n", Check.BAD, x.failing(-1, 0));
        Check.due("n", Check.BAD, x.failing(1000, 0));
        Check.due("what", Check.BAD, x.failing(0, 2));
        Check.due("what", Check.BAD, x.failing(0, -1));
        Check.due("3: mark 2", 4, x.failing(3, 0));
        Check.due("3: mark 2", 4, x.failing(3, 1));
        Check.due("2: 0 not 1 not 2", 1, x.failing(2, 0));
        Check.due("2: no saying of two", Check.NONE, x.failing(2, 1));
        Check.due("1: not 0 and not 2 ahead of 1 and not 2", 20 + 20 + 5, x.failing(1, 1));
        Check.due("0", 0, x.failing(0, 0));
        Check.due("999", 0, x.failing(999, 0));
        Check.due("999", Check.NONE, x.failing(999, 1));
        Check.read(x, "law not (0 and not 1);");
        Check.due("1: off 2", 5, x.failing(1, 1));
        Check.due("1: three of them", 3, x.failing(1, 0));
        Check.read(x, "law 0 and 2;");
        Check.due("one literal of several", 0, x.failing(3, 1));
    }
}
