/** Promises 6 to 8: the tape, texts and their FAULTS. */
public final class TextsTest {
    public static void main(String[] args) {
        feed();
        tokens();
        marks();
        laws();
        lines();
        rooms();
        nothingComes();
        Check.end();
    }

    private static void feed() {
        MarkedBody x = new MarkedBody();
        Check.due("n 0", Check.BAD, x.feed(0, 0));
        Check.due("n 9", Check.BAD, x.feed(0, 9));
        Check.due("n below 0", Check.BAD, x.feed(0, Integer.MIN_VALUE));
        Check.due("one byte", 1, x.feed(0x7777777777777720L, 1));
        Check.due("on the tape", 1, x.count(6));
        for (int i = 0; i < 62; i++) {
            x.feed(0x2020202020202020L, 8);
        }
        Check.due("497", 497, x.count(6));
        Check.due("full", Check.FULL, x.feed(0x2020202020202020L, 4));
        Check.due("bad ahead of full", Check.BAD, x.feed(0, 9));
        Check.due("none came", 497, x.count(6));
        Check.due("500", 500, x.feed(0x202020, 3));
        Check.due("full", Check.FULL, x.feed(32, 1));
        Check.due("only gaps", 0, x.read());
        Check.due("empty", 0, x.count(6));
        Check.due("the highest first", 8, x.feed(0x6C61772030202020L, 8));
        Check.fault(x, "", 4, 2);
        Check.due("a byte above 127", 1, x.feed(200, 1));
        Check.fault(x, "", 0, 1);
        Check.due("negative w", 8, x.feed(-1L, 8));
        Check.fault(x, "", 0, 1);
    }

    private static void tokens() {
        MarkedBody x = new MarkedBody();
        Check.due("fault before one", 0, x.fault());
        Check.due("nothing", 0, x.read());
        Check.due("gaps of both sorts", 0, Check.read(x, " \n mark\nroot\n\n may ; \n"));
        Check.due("no gaps", 1, Check.read(x, "mark 0may;law not(0)or 0;line plain set0 1if(0);"));
        Check.due("marks", 2, x.count(1));
        Check.due("laws", 1, x.count(2));
        Check.due("three figures", 2, Check.read(x, "line plain set 003 099 if 001;"));
        Check.due("fault stays 0", 0, x.fault());
        Check.fault(x, "mark root may;\tmark", 14, 1);
        Check.fault(x, "mark root may;\rmark", 14, 1);
        Check.fault(x, "Mark root may;", 0, 1);
        Check.fault(x, "markroot may;", 0, 1);
        Check.fault(x, "mark root may", 13, 1);
        Check.fault(x, "mark root may  \n", 16, 1);
        Check.fault(x, "mark  0001 may;", 6, 1);
        Check.fault(x, "law 0,1;", 5, 1);
        Check.fault(x, ";", 0, 1);
        Check.fault(x, "7", 0, 1);
        Check.due("fault stays behind a good text", 2, Check.read(x, ""));
        Check.due("fault stays behind a good text", 1, x.fault());
    }

    private static void marks() {
        MarkedBody x = new MarkedBody();
        Check.fault(x, "mark", 4, 1);
        Check.fault(x, "mark 0 may;", 5, 2);
        Check.fault(x, "mark roots may;", 5, 1);
        Check.fault(x, "mark ; may;", 5, 1);
        Check.fault(x, "mark root 0;", 10, 1);
        Check.fault(x, "mark root may mark", 14, 1);
        Check.fault(x, "mark root mayz;", 10, 1);
        Check.fault(x, "amark root may;", 0, 1);
        Check.fault(x, "mark root must;mark 1 one;", 20, 2);
        Check.due("an earlier one of the same text", 0, Check.read(x, "mark root must;mark 0 one;"));
        Check.fault(x, "mark 2 may;", 5, 2);
        Check.fault(x, "mark 999 may;", 5, 2);
        Check.due("two", 2, x.count(1));
    }

    private static void laws() {
        MarkedBody x = Check.told("mark root may;mark root may;");
        Check.fault(x, "law", 3, 1);
        Check.fault(x, "law;", 3, 1);
        Check.fault(x, "law or;", 4, 1);
        Check.fault(x, "law 0 or;", 8, 1);
        Check.fault(x, "law 0 or or 1;", 9, 1);
        Check.fault(x, "law 0 not 1;", 6, 1);
        Check.fault(x, "law ();", 5, 1);
        Check.fault(x, "law (0", 6, 1);
        Check.fault(x, "law (0));", 7, 1);
        Check.fault(x, "law 2;", 4, 2);
        Check.fault(x, "law 0 1;", 6, 1);
        Check.fault(x, "law 0 if 1;", 6, 1);
        String twelve = "0 and 0 and 0 and 0 and 0 and 0 and 0 and 0 and 0 and 0 and 0 and 1";
        Check.due("twelve marks", 0, Check.read(x, "law " + twelve + ";"));
        Check.fault(x, "law " + twelve + " or 1;", 4 + twelve.length() + 4, 3);
        Check.fault(x, "law " + twelve + " or 2;", 4 + twelve.length() + 4, 2);
        Check.fault(x, "law " + twelve + " or not;", 4 + twelve.length() + 7, 1);
        Check.due("five nested", 0, Check.read(x, "law ((not (not 0)));"));
        Check.due("five beside five", 0, Check.read(x, "law not not not not not 0 and (((((1 or 0)))));"));
        Check.fault(x, "law not not not not not not 0;", 24, 3);
        Check.fault(x, "law ((not (not (0))));", 15, 3);
        Check.fault(x, "law ((not (not 0", 16, 1);
        Check.fault(x, "law ((not ((not 0))));", 12, 3);
        Check.fault(x, "law (((((0 and (1))))));", 15, 3);
        Check.due("deepest with parts at each", 0, Check.read(x, "law 0 or 1 and (0 or 1 and (0 or 1 and (0 or 1 "
                + "and (0 or 1 and (0 or 1)))));"));
        Check.due("deepest holds", 1, x.holds(0, 3, 2));
        Check.due("deepest does not", 0, x.holds(0, 3, 0));
        Check.due("not of one atom", 0, Check.read(x, "law not 0 and 1;"));
        Check.due("not binds first", 1, x.holds(0, 4, 2));
        Check.due("not binds first", 0, x.holds(0, 4, 0));
        Check.due("and ahead of or", 0, Check.read(x, "law 0 or 0 and 1;"));
        Check.due("and ahead of or", 1, x.holds(0, 5, 1));
        Check.due("in brackets", 0, Check.read(x, "law (0 or 0) and 1;"));
        Check.due("in brackets", 0, x.holds(0, 6, 1));
    }

    private static void lines() {
        MarkedBody x = Check.told("mark root may;");
        Check.fault(x, "line", 4, 1);
        Check.fault(x, "line big set 0 0;", 5, 1);
        Check.fault(x, "line plain 0 set 0 0;", 11, 1);
        Check.fault(x, "line patch set 0 0;", 11, 1);
        Check.fault(x, "line patch 8 set 0 0;", 11, 2);
        Check.fault(x, "line other put 0 0;", 11, 1);
        Check.fault(x, "line plain set 4 0;", 15, 2);
        Check.fault(x, "line plain set x 0;", 15, 1);
        Check.fault(x, "line plain set 0 100;", 17, 2);
        Check.fault(x, "line plain add 0 100;", 17, 2);
        Check.fault(x, "line plain sum 0 4;", 17, 2);
        Check.fault(x, "line plain mul 0 4;", 17, 2);
        Check.fault(x, "line plain mul 0;", 16, 1);
        Check.fault(x, "line plain set 0 0 0;", 19, 1);
        Check.fault(x, "line plain set 0 0 if;", 21, 1);
        Check.fault(x, "line plain set 0 0 if 1;", 22, 2);
        Check.fault(x, "line plain set 0 0 if 0", 23, 1);
        Check.due("all acts", 4, Check.read(x, "line plain set 3 99;line other add 3 99;"
                + "line patch 7 sum 3 3;line patch 0 mul 3 3 if 0;"));
    }

    private static void rooms() {
        MarkedBody x = new MarkedBody();
        for (int i = 0; i < 9; i++) {
            Check.read(x, "mark root may;");
        }
        Check.fault(x, "mark root may;mark", 14, 3);
        Check.due("nine", 9, x.count(1));
        Check.read(x, "mark root may;");
        Check.fault(x, "mark 99 may;", 0, 3);
        for (int i = 0; i < 8; i++) {
            Check.read(x, "law 9 or not 9;");
        }
        Check.due("eight", 8, x.count(2));
        Check.fault(x, "  law 0;", 2, 3);
        for (int i = 0; i < 24; i++) {
            Check.due("lines", i + 1, Check.read(x, "line plain set 0 0;"));
        }
        Check.fault(x, "line", 0, 3);
        Check.due("24", 24, x.count(3));
        Check.due("ten marks", 1024, x.many());
    }

    private static void nothingComes() {
        MarkedBody x = Check.told("mark root may;");
        Check.fault(x, "mark root must;law 1;line plain set 0 1;law 7;", 44, 2);
        Check.due("marks", 1, x.count(1));
        Check.due("laws", 0, x.count(2));
        Check.due("lines", 0, x.count(3));
        Check.due("many", 2, x.many());
        Check.due("what failed leaves nothing behind", 1, Check.read(x, "line other add 1 2;"));
        Check.due("sort", 1, x.line(0, 0));
        Check.due("saying", 0, x.line(0, 4));
        Check.fault(x, "line patch 3 set 0 1 if 0 and 0 x", 32, 1);
        Check.due("next", 2, Check.read(x, "line plain set 2 1;"));
        Check.due("no buyer", Check.NONE, x.line(1, 1));
        Check.due("no saying", 0, x.line(1, 4));
        Check.due("always", 1, x.holds(1, 1, 0));
        Check.fault(x, "line other set 0 1;line patch 1 set 0 1;x", 40, 1);
        Check.due("an other that did not come replaces nothing", 0b11, x.body(0, 0, Check.NONE));
        Check.due("nor makes an idler", 1, x.kind(1));
        Check.due("nor is counted", 0, x.count(5));
    }
}
