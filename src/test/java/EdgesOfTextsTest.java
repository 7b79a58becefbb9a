/** The sentences on texts that name an edge (part 1, promises 6 to 8), each with its last and first inputs. */
public final class EdgesOfTextsTest {
    private static final String MARK = "mark root may;", LAW = "law 0;", LINE = "line plain set 0 0;";

    public static void main(String[] args) {
        bytesOfAFeed();
        highestFirst();
        roomOfTheTape();
        fullTapeIsRead();
        emptyThen();
        emptyTexts();
        everyByteBetweenNames();
        everyByteBetweenFigures();
        figures();
        namesAsTold();
        namesAlmostAsTold();
        earlierMarks();
        marksOfSayings();
        buyersOfPatches();
        cellsAndValues();
        roomForMarks();
        roomForLaws();
        roomForLines();
        roomInOneText();
        roomIsEachItsOwn();
        twelveMarks();
        fiveWithinOneAnother();
        fiveWithPartsAtEach();
        besideOneAnother();
        leastOfOneToken();
        firstToken();
        theEnd();
        theEndBehindALongerText();
        nothingComes();
        whenAllIsRead();
        latestFault();
        Check.end();
    }

    private static void bytesOfAFeed() {
        Check.sentence("Promise 6: n bytes of w (1 to 8). BAD: n");
        MarkedBody x = new MarkedBody();
        int there = 0;
        for (int n = 1; n <= 8; n++) {
            there += n;
            Check.due("feed of " + n, there, x.feed(0x2020202020202020L, n));
        }
        int[] none = {0, -1, 9, 64, Check.LEAST, Check.MOST};
        for (int n : none) {
            Check.due("feed of " + n, Check.BAD, x.feed(0x2020202020202020L, n));
            Check.due("bytes", there, x.count(6));
        }
        Check.due("gaps alone", 0, x.read());
    }

    private static void highestFirst() {
        Check.sentence("Promise 6: The lowest n bytes of w, the highest of them first, come behind the tape");
        String text = "mark root must;law 0;line patch 5 set 0 1 if 0;";
        for (int n = 1; n <= 8; n++) {
            MarkedBody x = new MarkedBody();
            for (int at = 0; at < text.length(); at += n) {
                int some = Math.min(n, text.length() - at);
                long above = some < 8 ? 0x7B3B7B3B7B3B7B3BL << (8 * some) : 0;
                Check.due("feed", at + some, x.feed(above | Check.word(text.substring(at, at + some)), some));
            }
            Check.due("in pieces of " + n, 1, x.read());
            Check.due("a must", 1, x.idle(1));
            Check.due("its buyer", 5, x.line(0, 1));
        }
        MarkedBody x = new MarkedBody();
        x.feed(-1L, 8);
        Check.fault(x, "", 0, 1);
        x.feed(0xFF00000000000020L, 8);
        Check.fault(x, "", 0, 1);
        x.feed(0xFF20202020202020L, 7);
        Check.due("the byte above them does not come", 0, x.read());
    }

    private static void roomOfTheTape() {
        Check.sentence("1: THE TAPE has at most 500 bytes; promise 6: FULL: none comes");
        long gaps = 0x2020202020202020L;
        for (int n = 1; n <= 8; n++) {
            MarkedBody x = new MarkedBody();
            Check.feed(x, " ".repeat(501 - n));
            Check.due("one byte too many", Check.FULL, x.feed(gaps, n));
            Check.due("none came", 501 - n, x.count(6));
            Check.due("BAD ahead of FULL", Check.BAD, x.feed(gaps, 9));
            if (n > 1) {
                Check.due("the last that fits", 500, x.feed(gaps, n - 1));
            }
            Check.due("500", 500, x.count(6));
            Check.due("no more", Check.FULL, x.feed(gaps, 1));
            Check.due("no more", Check.FULL, x.feed(gaps, 8));
            Check.due("BAD ahead of FULL", Check.BAD, x.feed(gaps, 0));
            Check.due("500 still", 500, x.count(6));
            Check.due("read", 0, x.read());
        }
        MarkedBody x = new MarkedBody();
        Check.feed(x, MARK + " ".repeat(485));
        Check.due("what does not fit", Check.FULL, x.feed(Check.word("xx"), 2));
        Check.due("leaves no byte behind", 0, x.read());
        Check.due("the mark came", 1, x.count(1));
        x = new MarkedBody();
        for (int i = 1; i <= 500; i++) {
            Check.due("byte by byte", i, x.feed(32, 1));
        }
        Check.due("the 501st", Check.FULL, x.feed(32, 1));
    }

    private static void fullTapeIsRead() {
        Check.sentence("1: at most 500 bytes (all of them are read)");
        MarkedBody x = new MarkedBody();
        Check.good(x, "line plain set 0 0" + " ".repeat(481) + ";", 1);
        Check.good(x, "\n".repeat(481) + LINE, 2);
        Check.fault(x, " ".repeat(499) + ";", 499, 1);
        Check.fault(x, " ".repeat(496) + "line", 500, 1);
        Check.fault(x, "a".repeat(500), 0, 1);
        Check.fault(x, "law " + "0".repeat(496), 4, 1);
        Check.fault(x, "(".repeat(500), 0, 1);
        Check.due("lines", 2, x.count(3));
    }

    private static void emptyThen() {
        Check.sentence("Promise 7: The tape, empty then, is read");
        MarkedBody x = new MarkedBody();
        Check.feed(x, LINE);
        Check.due("bytes", 19, x.count(6));
        Check.due("good", 1, x.read());
        Check.due("empty behind a good one", 0, x.count(6));
        Check.due("nothing is read again", 1, x.read());
        Check.feed(x, "x" + " ".repeat(499));
        Check.due("bytes", 500, x.count(6));
        Check.due("a fault", -1000100, x.read());
        Check.due("empty behind a fault", 0, x.count(6));
        Check.due("nothing is read again", 1, x.read());
        Check.due("from the first byte on", 1, x.feed(32, 1));
        Check.good(x, " ".repeat(480) + LINE, 2);
    }

    private static void emptyTexts() {
        Check.sentence("1: text: { .. } (none of them, too); promise 7: how many LINES there are");
        MarkedBody x = new MarkedBody();
        Check.good(x, "", 0);
        Check.good(x, " ", 0);
        Check.good(x, "\n", 0);
        Check.good(x, " \n".repeat(250), 0);
        Check.due("no fault", 0, x.fault());
        Check.good(x, LINE, 1);
        Check.good(x, "", 1);
        Check.good(x, MARK + LAW, 1);
        Check.good(x, LINE + LINE, 3);
    }

    /** What stands between "mark" and "root" makes one NAME of them, parts them, or cannot stand there. */
    private static void everyByteBetweenNames() {
        Check.sentence("1: NAMES (letters a to z), SIGNS ; ( ) bytes 32 and 10 between");
        for (int b = 0; b < 256; b++) {
            String text = "mark" + (char) b + "root may;";
            MarkedBody x = new MarkedBody();
            if (b == 32 || b == 10) {
                Check.good(x, text, 0);
                Check.due("byte " + b, 1, x.count(1));
            } else if (b >= 'a' && b <= 'z') {
                Check.fault(x, text, 0, 1);
            } else if (b >= '0' && b <= '9') {
                Check.fault(x, text, 4, 2);
            } else {
                Check.fault(x, text, 4, 1);
            }
        }
    }

    private static void everyByteBetweenFigures() {
        Check.sentence("1: NUMBERS (figures, 3 at most), bytes 32 and 10 between");
        for (int b = 0; b < 256; b++) {
            MarkedBody x = new MarkedBody();
            boolean isGap = b == 32 || b == 10;
            boolean isFigure = b >= '0' && b <= '9';
            int place = isGap || b == ';' ? 19 : isFigure ? 17 : 18;
            Check.fault(x, "line plain set 0 1" + (char) b + "2;", place, isFigure ? 2 : 1);
            if (isFigure) {
                Check.good(x, "line plain set 0 0" + (char) b + "2;", 1);
                Check.due("its figures", 10 * (b - '0') + 2, x.run(0, 0, Check.NONE, 0));
            }
        }
        MarkedBody x = Check.told(MARK);
        Check.good(x, "law(0);law( 0 );law\n(0)\n;law((0)or(0));", 0);
        Check.fault(x, "law [0];", 4, 1);
        Check.fault(x, "law 0:", 5, 1);
        Check.fault(x, "law 0<", 5, 1);
        Check.fault(x, "law '0);", 4, 1);
        Check.fault(x, "law *0);", 4, 1);
    }

    private static void figures() {
        Check.sentence("1: NUMBERS (figures, 3 at most); 1 .. or is none");
        MarkedBody x = Check.told(MARK);
        String[] good = {"0 7", "00 07", "000 007", "3 99", "03 099", "003 99"};
        for (int i = 0; i < good.length; i++) {
            Check.good(x, "line plain set " + good[i] + " if 000;", i + 1);
        }
        Check.fault(x, "line plain set 0 999;", 17, 2);
        Check.fault(x, "line plain set 0 0000;", 17, 1);
        Check.fault(x, "line plain set 0000 0;", 15, 1);
        Check.fault(x, "line plain set 0 1000;", 17, 1);
        Check.fault(x, "line patch 0001 set 0 0;", 11, 1);
        Check.fault(x, "mark 0000 may;", 5, 1);
        Check.fault(x, "law 0000;", 4, 1);
        Check.fault(x, "law 000;law 0 or 0000", 17, 1);
        Check.good(x, "mark 000 may;law 001;", 6);
    }

    private static void namesAsTold() {
        Check.sentence("1: way, sort, act, 'root', 'if', 'or', 'and', 'not'; FAULT 1 it cannot stand there");
        MarkedBody x = Check.told(MARK);
        String[] words = {"mark", "law", "line", "root", "must", "may", "one", "plain", "other", "patch", "set", "add",
            "sum", "mul", "if", "or", "and", "not", "0", ";", "(", ")"};
        for (String w : words) {
            String as = " " + w + " ";
            canStand(x, w, "mark law line", 0, w);
            canStand(x, w, "root 0", 5, "mark" + as);
            canStand(x, w, "must may one", 10, "mark root" + as);
            canStand(x, w, ";", 14, "mark root may" + as);
            canStand(x, w, "not ( 0", 4, "law" + as);
            canStand(x, w, "or and ;", 6, "law 0" + as);
            canStand(x, w, "or and )", 7, "law (0" + as);
            canStand(x, w, "not ( 0", 8, "law not" + as);
            canStand(x, w, "plain other patch", 5, "line" + as);
            canStand(x, w, "0", 11, "line patch" + as);
            canStand(x, w, "set add sum mul", 11, "line plain" + as);
            canStand(x, w, "0", 15, "line plain mul" + as);
            canStand(x, w, "0", 17, "line plain mul 0" + as);
            canStand(x, w, "if ;", 19, "line plain mul 0 0" + as);
            canStand(x, w, "or and ;", 24, "line plain mul 0 0 if 0" + as);
            x = Check.told(MARK);
        }
    }

    /** Behind a word that can stand there the '?' has the FAULT, else the word itself. */
    private static void canStand(MarkedBody x, String word, String these, int place, String text) {
        boolean can = (" " + these + " ").contains(" " + word + " ");
        Check.fault(x, text + "?", can ? text.length() : place, 1);
    }

    private static void namesAlmostAsTold() {
        Check.sentence("1: FAULT 1 it cannot stand there (a NAME that is one letter off)");
        String[] texts = {"mark root must;", "mark root may;", "mark root one;", "law 0 or not 0 and 0;",
            "line plain set 0 0 if 0;", "line other add 0 0;", "line patch 3 sum 0 0;", "line plain mul 0 0;"};
        for (String text : texts) {
            for (int at = 0; at < text.length(); at++) {
                if (Character.isLetter(text.charAt(at))) {
                    oneLetterOff(text, at);
                }
            }
        }
    }

    private static void oneLetterOff(String text, int at) {
        int first = Math.max(text.lastIndexOf(' ', at), text.lastIndexOf(';', at)) + 1;
        String ahead = text.substring(0, at);
        String behind = text.substring(at + 1);
        MarkedBody x = Check.told(MARK);
        Check.fault(x, ahead + "z" + behind, first, 1);
        Check.fault(x, ahead + "z" + text.substring(at), first, 1);
        Check.fault(x, ahead + text.charAt(at) + "z" + behind, first, 1);
        Check.fault(x, ahead + behind, first, 1);
        Check.good(x, text, text.startsWith("line") ? 1 : 0);
    }

    private static void earlierMarks() {
        Check.sentence("1: each under root or an earlier MARK; 2 a NUMBER that is not as told");
        MarkedBody x = new MarkedBody();
        Check.fault(x, "mark 0 may;", 5, 2);
        for (int m = 0; m < 9; m++) {
            Check.good(x, MARK, 0);
            Check.fault(x, "mark " + (m + 1) + " may;", 5, 2);
            Check.fault(x, "mark 999 may;", 5, 2);
            Check.due("marks", m + 1, x.count(1));
        }
        Check.good(x, "mark 8 must;", 0);
        Check.due("under the one ahead", 0, x.allowed(1 << 9));
        Check.due("under the one ahead", 1, x.allowed(3 << 8));
        x = new MarkedBody();
        Check.fault(x, MARK + "mark 1 may;", 19, 2);
        Check.good(x, MARK + "mark 0 may;", 0);
    }

    private static void marksOfSayings() {
        Check.sentence("1: 2 (a MARK that is not there yet, too)");
        MarkedBody x = new MarkedBody();
        Check.fault(x, "law 0;", 4, 2);
        Check.fault(x, LAW + MARK, 4, 2);
        Check.fault(x, "line plain set 0 0 if 0;" + MARK, 22, 2);
        Check.good(x, MARK + LAW + "line plain set 0 0 if 0;", 1);
        Check.fault(x, "law 1;", 4, 2);
        Check.fault(x, "law 0 and (not 1);", 15, 2);
        Check.fault(x, "line plain set 0 0 if 0 or 1;", 27, 2);
        Check.good(x, MARK.repeat(9) + "law 0 or 9;line plain set 0 0 if 9;", 2);
        Check.fault(x, "law 10;", 4, 2);
        Check.fault(x, "law 9 or 999;", 9, 2);
    }

    private static void buyersOfPatches() {
        Check.sentence("1: 'patch' NUMBER (a BUYER 0 to 7)");
        MarkedBody x = new MarkedBody();
        for (int b = 0; b < 8; b++) {
            Check.good(x, "line patch " + b + " set 0 0;", b + 1);
            Check.due("its buyer", b, x.line(b, 1));
        }
        Check.fault(x, "line patch 8 set 0 0;", 11, 2);
        Check.fault(x, "line patch 999 set 0 0;", 11, 2);
        Check.due("lines", 8, x.count(3));
    }

    private static void cellsAndValues() {
        Check.sentence("1: set, add (a CELL 0 to 3, a value 0 to 99), sum, mul (two CELLS)");
        MarkedBody x = new MarkedBody();
        String[] acts = {"set", "add", "sum", "mul"};
        int lines = 0;
        for (int act = 0; act < 4; act++) {
            String start = "line plain " + acts[act] + " ";
            int most = act < 2 ? 99 : 3;
            Check.good(x, start + "0 0;" + start + "3 " + most + ";", lines + 2);
            lines += 2;
            Check.fault(x, start + "4 0;", 15, 2);
            Check.fault(x, start + "999 0;", 15, 2);
            Check.fault(x, start + "0 " + (most + 1) + ";", 17, 2);
            Check.fault(x, start + "3 999;", 17, 2);
            Check.due("lines", lines, x.count(3));
        }
        x = Check.told("line plain set 0 1;line plain set 1 2;line plain set 2 3;line plain set 3 99;");
        int[] cells = {1, 2, 3, 99};
        for (int c = 0; c < 4; c++) {
            Check.due("cell " + c, cells[c], x.run(0, 0, Check.NONE, c));
        }
    }

    private static void roomForMarks() {
        Check.sentence("1: MARKS 0 .. 9 (10 at most); 3 a MARK more than there is room for (its first word)");
        MarkedBody x = new MarkedBody();
        for (int m = 1; m <= 9; m++) {
            Check.good(x, MARK, 0);
        }
        Check.fault(x, MARK + " " + MARK, 15, 3);
        Check.due("nine", 9, x.count(1));
        Check.due("nine", 512, x.many());
        Check.good(x, MARK, 0);
        Check.due("ten", 10, x.count(1));
        Check.fault(x, MARK, 0, 3);
        Check.fault(x, "mark", 0, 3);
        Check.fault(x, "mark 99 x", 0, 3);
        Check.due("ten", 10, x.count(1));
        Check.due("ten", 1024, x.many());
    }

    private static void roomForLaws() {
        Check.sentence("1: LAWS 0 .. 7 (8 at most); 3 a LAW more than there is room for (its first word)");
        MarkedBody x = Check.told(MARK);
        for (int i = 1; i <= 7; i++) {
            Check.good(x, LAW, 0);
        }
        Check.fault(x, LAW + "\n" + LAW, 7, 3);
        Check.due("seven", 7, x.count(2));
        Check.good(x, LAW, 0);
        Check.due("eight", 8, x.count(2));
        Check.due("the last", 1, x.holds(0, 7, 1));
        Check.fault(x, LAW, 0, 3);
        Check.fault(x, "law 99", 0, 3);
        Check.due("eight", 8, x.count(2));
    }

    private static void roomForLines() {
        Check.sentence("1: LINES 0 .. 23 (24 at most); 3 a LINE more than there is room for (its first word)");
        MarkedBody x = new MarkedBody();
        for (int i = 1; i <= 23; i++) {
            Check.good(x, LINE, i);
        }
        Check.fault(x, LINE + LINE, 19, 3);
        Check.due("23", 23, x.count(3));
        Check.good(x, LINE, 24);
        Check.due("the last", 1, x.kind(23));
        Check.fault(x, LINE, 0, 3);
        Check.fault(x, "line big", 0, 3);
        Check.due("24", 24, x.count(3));
    }

    private static void roomInOneText() {
        Check.sentence("1: 10, 8, 24 at most (all of one text)");
        MarkedBody x = new MarkedBody();
        Check.fault(x, MARK.repeat(11), 140, 3);
        Check.good(x, MARK.repeat(10), 0);
        Check.fault(x, LAW.repeat(9), 48, 3);
        Check.good(x, LAW.repeat(8), 0);
        Check.fault(x, LINE.repeat(25), 456, 3);
        Check.good(x, LINE.repeat(24), 24);
        Check.due("marks", 10, x.count(1));
        Check.due("laws", 8, x.count(2));
    }

    private static void roomIsEachItsOwn() {
        Check.sentence("1: 3 a MARK, LAW, LINE more than there is room for (each by itself)");
        MarkedBody x = Check.told(MARK.repeat(10));
        Check.good(x, LAW + LINE, 1);
        Check.good(x, LAW.repeat(7), 1);
        Check.good(x, LINE.repeat(23), 24);
        Check.fault(x, MARK, 0, 3);
        Check.fault(x, LAW, 0, 3);
        Check.fault(x, LINE, 0, 3);
        Check.good(x, " ", 24);
    }

    private static void twelveMarks() {
        Check.sentence("1: A saying has at most 12 MARKS in it (each time counts); 3 the 13th MARK of a saying");
        String eleven = "0 or ".repeat(11);
        String mixed = "((0 or 1) and not 0 or (1 and 1)) and 0 or 0 and 0 or 0 or 0 or 0 or ";
        MarkedBody x = Check.told(MARK + MARK);
        Check.good(x, "law " + eleven + "1;", 0);
        Check.good(x, "law " + mixed + "1;", 0);
        Check.fault(x, "law " + eleven + "0 or 0;", 4 + 60, 3);
        Check.fault(x, "law " + mixed + "1 and 1;", 4 + mixed.length() + 6, 3);
        Check.fault(x, "law " + eleven + "0 or not (0);", 4 + 60 + 5, 3);
        Check.good(x, "line plain set 0 0 if " + eleven + "1;", 1);
        Check.due("twelve", 12, x.line(0, 4));
        Check.fault(x, "line plain set 0 0 if " + eleven + "0 and 1;", 22 + 61, 3);
        Check.good(x, "law " + eleven + "1;law " + eleven + "1;line other set 0 0 if " + eleven + "1;"
                + "line plain set 0 0 if " + eleven + "0;", 3);
        Check.due("each saying by itself", 12, x.line(1, 4));
        Check.due("each saying by itself", 12, x.line(2, 4));
        Check.due("laws", 4, x.count(2));
    }

    private static void fiveWithinOneAnother() {
        Check.sentence("1: 5 of '(' and 'not' within one another; 3 the 6th '(' or 'not' within one another");
        String[] open = {"(", "not "};
        for (int way = 0; way < 32; way++) {
            StringBuilder five = new StringBuilder();
            StringBuilder close = new StringBuilder();
            for (int i = 0; i < 5; i++) {
                five.append(open[way >> i & 1]);
                close.append((way >> i & 1) == 0 ? ")" : "");
            }
            MarkedBody x = Check.told(MARK);
            Check.good(x, "law " + five + "0" + close + ";", 0);
            Check.due("five of them", Integer.bitCount(way) % 2, x.holds(0, 0, 0));
            Check.good(x, "line plain set 0 0 if " + five + "0" + close + ";", 1);
            Check.due("five of them", Integer.bitCount(way) % 2, x.holds(1, 0, 0));
            for (String sixth : open) {
                Check.fault(x, "law " + five + sixth + "0", 4 + five.length(), 3);
                Check.fault(x, "line plain set 0 0 if " + five + sixth, 22 + five.length(), 3);
            }
            Check.due("laws", 1, x.count(2));
            Check.due("lines", 1, x.count(3));
        }
    }

    private static void fiveWithPartsAtEach() {
        Check.sentence("1: 5 within one another, 12 MARKS: both at once");
        MarkedBody x = Check.told(MARK.repeat(9));
        Check.good(x, "law 2 or 1 and (3 or 1 and (4 or 1 and (5 or 1 and (6 or 1 and (7 or 8)))));", 0);
        Check.due("1 alone", 0, x.holds(0, 0, 0b000000010));
        Check.due("all but 1 and 2", 0, x.holds(0, 0, 0b111111001));
        Check.due("2 alone", 1, x.holds(0, 0, 0b000000100));
        for (int m = 3; m < 9; m++) {
            Check.due("1 and " + m, 1, x.holds(0, 0, 2 | 1 << m));
        }
        Check.good(x, "law not (not (not 0 or 1) or 2 and 3) and 4 or 5 and not (6 or not (7 and (8 or 0)));", 0);
        Check.due("4, and 0 without 1", 0, x.holds(0, 1, 0b000010001));
        Check.due("4 with 2 and 3", 0, x.holds(0, 1, 0b000011100));
        Check.due("4", 1, x.holds(0, 1, 0b000010100));
        Check.due("5 alone", 0, x.holds(0, 1, 0b000100000));
        Check.due("5, 7, 8", 1, x.holds(0, 1, 0b110100000));
        Check.due("5, 7, 8 with 6", 0, x.holds(0, 1, 0b111100000));
    }

    private static void besideOneAnother() {
        Check.sentence("1: within one another (those that are closed, or have their atom, do not count)");
        MarkedBody x = Check.told(MARK);
        Check.good(x, "law (0)" + " and (0)".repeat(11) + ";", 0);
        Check.good(x, "law not 0" + " or not 0".repeat(11) + ";", 0);
        Check.good(x, "law (((((0))))) and not not not not not 0 and ((((not 0)))) or (not (not (0)));", 0);
        Check.good(x, "law ((((not 0 and not 0 and (0)))));", 0);
        Check.fault(x, "law ((((not 0 and (not 0)))));", 19, 3);
        Check.fault(x, "law not (not (not 0 and not (0", 28, 3);
        Check.good(x, "law not (not (not 0 and not 0));", 0);
        Check.good(x, "law not not not not not 0;law not not not not not 0;", 0);
        Check.fault(x, "law (((((0 and 0) or ((0)", 22, 3);
        Check.good(x, "law (((((0 and 0) or 0) and 0) or 0) and (((0))));", 0);
        Check.due("laws", 8, x.count(2));
    }

    private static void leastOfOneToken() {
        Check.sentence("1: FAULTS, of one TOKEN the least");
        String twelve = "0 or ".repeat(12);
        MarkedBody x = Check.told(MARK);
        Check.fault(x, "law " + twelve + "0;", 64, 3);
        Check.fault(x, "law " + twelve + "1;", 64, 2);
        Check.fault(x, "law " + twelve + "999;", 64, 2);
        Check.fault(x, "law " + twelve + "0000;", 64, 1);
        Check.fault(x, "law " + twelve + ";", 64, 1);
        Check.fault(x, "law (((((0 (", 11, 1);
        Check.fault(x, "law (((((0 not", 11, 1);
        Check.fault(x, "law not not not not not )", 24, 1);
        Check.fault(x, "line plain set 4 0;", 15, 2);
        Check.fault(x, "line plain set 4444 0;", 15, 1);
        Check.good(x, MARK.repeat(9) + LAW.repeat(8), 0);
        Check.good(x, LINE.repeat(24), 24);
        Check.fault(x, "mark", 0, 3);
        Check.fault(x, "marks", 0, 1);
        Check.fault(x, "lin", 0, 1);
        Check.fault(x, "0", 0, 1);
    }

    private static void firstToken() {
        Check.sentence("1: FAULTS, the first TOKEN that has one (its first byte)");
        MarkedBody x = Check.told(MARK);
        Check.fault(x, "law 7 or x;", 4, 2);
        Check.fault(x, "law x or 7;", 4, 1);
        Check.fault(x, "line plain set 44 100;", 15, 2);
        Check.fault(x, "law not not not not not not 7 x", 24, 3);
        Check.fault(x, MARK.repeat(10) + "x", 126, 3);
        Check.fault(x, "law 0;law 0 and 7;!", 16, 2);
        Check.fault(x, "law 0;  wrong", 8, 1);
        Check.fault(x, "\n\n law 0 wrong", 9, 1);
        Check.fault(x, "law 0 andnot 0;", 6, 1);
        Check.fault(x, "line plain set 0 1if 0 1f", 23, 1);
    }

    private static void theEnd() {
        Check.sentence("1: 1 (the end: how many bytes there are)");
        String[] whole = {"mark", "root", "may", ";", "law", "not", "(", "0", "and", "0", ")", ";", "line", "patch", "3",
            "set", "0", "1", "if", "0", ";"};
        String[] gaps = {"", " ", "\n", "  \n "};
        for (String gap : gaps) {
            StringBuilder text = new StringBuilder();
            for (String token : whole) {
                text.append(text.length() == 0 ? "" : " ").append(token);
                MarkedBody x = new MarkedBody();
                if (token.equals(";")) {
                    Check.good(x, text + gap, text.indexOf("line") < 0 ? 0 : 1);
                } else {
                    Check.fault(x, text + gap, text.length() + gap.length(), 1);
                }
            }
        }
    }

    private static void theEndBehindALongerText() {
        Check.sentence("1: (the end: how many bytes there are); promise 7: The tape, empty then");
        String[] texts = {"mark root may;", "law not (0) and 0 or 0;", "line patch 3 set 2 17 if 0;"};
        for (String text : texts) {
            MarkedBody x = Check.told(MARK);
            for (int bytes = text.length() - 1; bytes > 0; bytes--) {
                Check.fault(x, "?" + text.substring(1), 0, 1);
                Check.due("cut behind " + bytes, 1, Check.read(x, text.substring(0, bytes)) < 0 ? 1 : 0);
            }
            Check.due("nothing came", 1, x.count(1) + x.count(2) + x.count(3));
        }
        MarkedBody x = Check.told(MARK);
        Check.fault(x, " ".repeat(482) + "line plain set 0 0", 500, 1);
        Check.fault(x, " ".repeat(495) + "law 0", 500, 1);
        Check.fault(x, " ".repeat(487) + "mark root may", 500, 1);
        Check.good(x, LINE + LINE, 2);
        Check.fault(x, "line plain set 0 0", 18, 1);
        Check.fault(x, LINE + "line plain set 0 0", 37, 1);
    }

    private static void nothingComes() {
        Check.sentence("Promise 7: -1000100 less the place of a FAULT: nothing comes");
        MarkedBody x = Check.told(MARK + "line plain set 0 5;");
        Check.fault(x, "mark root must;law 1;line other set 0 9;;", 40, 1);
        Check.due("marks", 1, x.count(1));
        Check.due("laws", 0, x.count(2));
        Check.due("lines", 1, x.count(3));
        Check.due("many", 2, x.many());
        Check.due("kind", Check.BAD, x.allowed(2));
        Check.due("law", Check.BAD, x.holds(0, 0, 0));
        Check.due("line", Check.BAD, x.line(1, 0));
        Check.due("the other is not in its place", 1, x.body(0, 0, Check.NONE));
        Check.due("ends", 5, x.ends(0));
        Check.due("no idler", 0, x.count(4));
        Check.fault(x, "line patch 3 set 0 1 if 0 and not 0 or", 38, 1);
        Check.good(x, "line plain add 0 1;", 2);
        Check.due("nothing of the patch stays", 0, x.line(1, 0));
        Check.due("nothing of the patch stays", Check.NONE, x.line(1, 1));
        Check.due("nothing of its saying stays", 0, x.line(1, 4));
        Check.due("nothing of its saying stays", 1, x.holds(1, 1, 0));
        Check.due("ends", 6, x.ends(0));
    }

    private static void whenAllIsRead() {
        Check.sentence("1: All come behind what there is, when all is read");
        MarkedBody x = Check.told(MARK + "law 0 or not 0;line plain set 0 1;");
        Check.good(x, "line plain set 0 2 if 0;mark 0 must;law 1 or not 0;"
                + "line patch 4 set 0 3 if 1;", 3);
        Check.due("marks", 2, x.count(1));
        Check.due("the first law is the first still", 1, x.holds(0, 0, 0));
        Check.due("the second", 0, x.holds(0, 1, 1));
        Check.due("lines by their order", 0, x.holds(1, 1, 0));
        Check.due("lines by their order", 4, x.line(2, 1));
        Check.due("many", 2, x.many());
    }

    private static void latestFault() {
        Check.sentence("Promise 8: The number of the latest FAULT; 0 before one");
        MarkedBody x = new MarkedBody();
        Check.due("new", 0, x.fault());
        Check.good(x, MARK, 0);
        Check.due("behind a good one", 0, x.fault());
        Check.due("a BAD call has none", Check.BAD, x.feed(0, 0));
        Check.due("a FINDING is none", Check.NULL, x.drop(0));
        Check.due("0 still", 0, x.fault());
        Check.fault(x, "law not not not not not not", 24, 3);
        Check.fault(x, "law 1;", 4, 2);
        Check.fault(x, "law;", 3, 1);
        Check.fault(x, "law 1;", 4, 2);
        Check.good(x, LAW, 0);
        Check.good(x, "", 0);
        Check.due("it stays", 2, x.fault());
    }
}
