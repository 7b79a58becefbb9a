/** The sentences on SHEETS that name an edge (part 1, promises 1 to 5 and 34), each with its last and first inputs. */
public final class EdgesOfSheetsTest {
    public static void main(String[] args) {
        missingAtFirst();
        sheetNumbers();
        lanes();
        itemsOfASheet();
        itemsAreZeroAtFirst();
        inPlaceOfWhatIsThere();
        size();
        lowestBits();
        itemBecomes();
        placesOfSet();
        placesOfCopy();
        placesOfCopyFarOut();
        copyOfTwoLengths();
        asTheyWereAhead();
        copyMissingAndTwoLanes();
        drop();
        statusBeforeAny();
        statusOfEachFinding();
        statusIsZeroAgain();
        statusStays();
        Check.end();
    }

    private static void missingAtFirst() {
        Check.sentence("1: SHEETS 0 .. 7 are missing (at first)");
        MarkedBody x = new MarkedBody();
        Check.due("sheets", 0, x.count(0));
        for (int s = 0; s < 8; s++) {
            Check.due("set in " + s, Check.NULL, x.set(s, 0, 1));
            Check.due("copy from " + s, Check.NULL, x.copy(s, 0, s, 0, 0));
            Check.due("drop " + s, Check.NULL, x.drop(s));
            Check.due("buyers of " + s, Check.NULL, x.buyers(s, 0, 1));
        }
    }

    private static void sheetNumbers() {
        Check.sentence("1: SHEETS 0 .. 7; promises 2 to 5 and 26: BAD: SHEET");
        MarkedBody x = new MarkedBody();
        for (int s = 0; s < 8; s++) {
            Check.due("sheet " + s, 1, x.sheet(s, 2, 1));
            Check.due("set in " + s, s + 5, x.set(s, 0, s + 5));
            Check.due("copy in " + s, 1, x.copy(s, 0, s, 0, 1));
            Check.due("sheets", s + 1, x.count(0));
        }
        int[] none = {-1, 8, Check.LEAST, Check.MOST};
        for (int s : none) {
            Check.due("sheet " + s, Check.BAD, x.sheet(s, 2, 1));
            Check.due("set in " + s, Check.BAD, x.set(s, 0, 0));
            Check.due("copy from " + s, Check.BAD, x.copy(s, 0, 0, 0, 1));
            Check.due("copy to " + s, Check.BAD, x.copy(0, 0, s, 0, 1));
            Check.due("drop " + s, Check.BAD, x.drop(s));
            Check.due("buyers of " + s, Check.BAD, x.buyers(s, 0, 1));
        }
        Check.due("sheets", 8, x.count(0));
        Check.due("drop 0", 1, x.drop(0));
        Check.due("drop 7", 1, x.drop(7));
        Check.due("sheets", 6, x.count(0));
    }

    private static void lanes() {
        Check.sentence("1: a LANE (0 bytes, 1 shorts, 2 ints); promise 2: BAD: LANE");
        MarkedBody x = new MarkedBody();
        int wide = 0x12345678;
        int[] due = {0x78, 0x5678, wide};
        for (int lane = 0; lane < 3; lane++) {
            Check.due("lane " + lane, 1, x.sheet(0, lane, 1));
            Check.due("its item", due[lane], x.set(0, 0, wide));
        }
        int[] none = {-1, 3, Check.LEAST, Check.MOST};
        for (int lane : none) {
            Check.due("lane " + lane, Check.BAD, x.sheet(0, lane, 1));
            Check.due("lane " + lane + ", empty", Check.BAD, x.sheet(0, lane, 0));
        }
        Check.due("ints as before", wide, x.set(0, 0, wide));
    }

    private static void itemsOfASheet() {
        Check.sentence("1: 0 to 40 ITEMS; promise 2: BAD: n above 40; promise 3: PLACE");
        MarkedBody x = new MarkedBody();
        for (int n = 0; n <= 40; n++) {
            Check.due("items " + n, n, x.sheet(3, 2, n));
            if (n > 0) {
                Check.due("the last of " + n, n, x.set(3, n - 1, n));
            }
            Check.due("behind the last of " + n, Check.PLACE, x.set(3, n, n));
        }
        Check.due("items 41", Check.BAD, x.sheet(3, 2, 41));
        Check.due("items far above", Check.BAD, x.sheet(3, 2, Check.MOST));
        Check.due("still 40", 40, x.drop(3));
        Check.due("41 of a missing one", Check.BAD, x.sheet(3, 2, 41));
        Check.due("it is missing still", Check.NULL, x.drop(3));
    }

    private static void itemsAreZeroAtFirst() {
        Check.sentence("1: ITEMS, 0 at first");
        MarkedBody x = Watch.made();
        for (int s = 0; s < 8; s += 7) {
            x.sheet(s, s % 3, 40);
            for (int i = 0; i < 40; i += 8) {
                Watch.items("new sheet", x, s, i, 0, 0, 0, 0, 0, 0, 0, 0);
            }
        }
    }

    private static void inPlaceOfWhatIsThere() {
        Check.sentence("Promise 2: in place of what is there");
        MarkedBody x = Watch.made();
        x.sheet(0, 2, 40);
        x.set(0, 0, 5);
        x.set(0, 39, 6);
        Check.due("as long", 40, x.sheet(0, 2, 40));
        Watch.items("as long", x, 0, 0, 0);
        Watch.items("as long", x, 0, 39, 0);
        x.set(0, 39, 7);
        Check.due("shorter", 1, x.sheet(0, 2, 1));
        Check.due("shorter", Check.PLACE, x.set(0, 39, 1));
        Check.due("longer", 40, x.sheet(0, 2, 40));
        Watch.items("longer", x, 0, 39, 0);
        x.set(0, 39, 8);
        Check.due("dropped", 40, x.drop(0));
        Check.due("anew", 40, x.sheet(0, 2, 40));
        Watch.items("anew", x, 0, 39, 0);
        Check.due("another lane", 2, x.sheet(0, 0, 2));
        Check.due("another lane", 44, x.set(0, 0, 300));
        Check.due("one sheet", 1, x.count(0));
        Check.due("empty", 0, x.sheet(0, 0, 0));
        Check.due("empty is there", 1, x.count(0));
        Check.due("empty has no place", Check.PLACE, x.set(0, 0, 1));
    }

    private static void size() {
        Check.sentence("Terms: SIZE (fewer than none); promise 2: SIZE");
        MarkedBody x = new MarkedBody();
        Check.due("none", 0, x.sheet(0, 0, 0));
        Check.due("fewer than none", Check.SIZE, x.sheet(0, 0, -1));
        Check.due("far fewer", Check.SIZE, x.sheet(0, 0, Check.LEAST));
        Check.due("of a missing one", Check.SIZE, x.sheet(1, 0, -1));
        Check.due("it is missing still", Check.NULL, x.drop(1));
        x.sheet(2, 2, 3);
        x.set(2, 2, 1 << 20);
        Check.due("of one that is there", Check.SIZE, x.sheet(2, 0, -1));
        Check.due("its lane stays", 1 << 20, x.set(2, 2, 1 << 20));
        Check.due("its items stay", 3, x.drop(2));
    }

    private static void lowestBits() {
        Check.sentence("Promise 3: v, its lowest bits, as many as the LANE has: what it is then");
        MarkedBody x = new MarkedBody();
        int[][] values = {
            {0, 1, 127, 128, 255, 256, 383, 384, -1, -128, -129, -256, Check.LEAST, Check.MOST},
            {0, 1, 32767, 32768, 65535, 65536, 98303, 98304, -1, -32768, -32769, -65536, Check.LEAST, Check.MOST},
            {0, 1, 32768, 65536, -1, -32769, Check.LEAST, Check.MOST},
        };
        int[][] due = {
            {0, 1, 127, -128, -1, 0, 127, -128, -1, -128, 127, 0, 0, -1},
            {0, 1, 32767, -32768, -1, 0, 32767, -32768, -1, -32768, 32767, 0, 0, -1},
            {0, 1, 32768, 65536, -1, -32769, Check.LEAST, Check.MOST},
        };
        for (int lane = 0; lane < 3; lane++) {
            x.sheet(lane, lane, 40);
            for (int k = 0; k < values[lane].length; k++) {
                Check.due("lane " + lane + " of " + values[lane][k], due[lane][k], x.set(lane, 0, values[lane][k]));
                Check.due("the last place", due[lane][k], x.set(lane, 39, values[lane][k]));
            }
        }
    }

    private static void itemBecomes() {
        Check.sentence("Promise 3: ITEM i becomes v");
        MarkedBody x = Watch.made();
        x.sheet(0, 0, 8);
        x.set(0, 0, 127);
        x.set(0, 7, 1);
        x.set(0, 3, 256 + 9);
        Watch.items("bytes", x, 0, 0, 127, 0, 0, 9, 0, 0, 0, 1);
        x.set(0, 3, 255);
        Check.due("a byte of all bits is below 0, and no KIND", Check.BAD, x.buyers(0, 3, 1));
        x.sheet(1, 1, 3);
        x.set(1, 1, 1023);
        x.set(1, 2, 65536 + 512);
        Watch.items("shorts", x, 1, 0, 0, 1023, 512);
        x.sheet(2, 2, 2);
        x.set(2, 1, 65536 + 512);
        Check.due("an int keeps its higher bits", Check.BAD, x.buyers(2, 1, 1));
        Watch.items("the one beside it stays", x, 2, 0, 0);
    }

    private static void placesOfSet() {
        Check.sentence("Terms: PLACE (no such place of a SHEET); promise 3: BAD: SHEET; NULL; PLACE");
        MarkedBody x = Watch.made();
        x.sheet(0, 1, 3);
        Check.due("the first", 1, x.set(0, 0, 1));
        Check.due("the last", 3, x.set(0, 2, 3));
        int[] none = {-1, 3, 39, 40, Check.LEAST, Check.MOST};
        for (int i : none) {
            Check.due("place " + i, Check.PLACE, x.set(0, i, 9));
            Check.due("BAD ahead of it", Check.BAD, x.set(8, i, 9));
            Check.due("NULL ahead of it", Check.NULL, x.set(1, i, 9));
        }
        Watch.items("as before", x, 0, 0, 1, 0, 3);
    }

    private static void placesOfCopy() {
        Check.sentence("Promise 4: PLACE (i, j, n below 0, or beyond an end)");
        MarkedBody x = Watch.made();
        fill(x, 0, 2, 1, 2, 3, 4, 5);
        fill(x, 1, 2, 11, 12, 13, 14, 15);
        int[][] beyond = {
            {-1, 0, 1}, {0, -1, 1}, {0, 0, -1}, {-1, -1, -1}, {-1, 0, 0}, {0, -1, 0}, {-1, 0, 2}, {1, 1, -1},
            {5, 0, 1}, {0, 5, 1}, {4, 0, 2}, {0, 4, 2}, {0, 0, 6}, {1, 0, 5}, {0, 1, 5}, {6, 0, 0}, {0, 6, 0}, {6, 0, -1},
        };
        for (int[] b : beyond) {
            String call = b[0] + ", " + b[1] + ", " + b[2];
            Check.due("beyond " + call, Check.PLACE, x.copy(0, b[0], 1, b[1], b[2]));
            Check.due("status", 2, x.status());
            Check.due("beyond within one: " + call, Check.PLACE, x.copy(0, b[0], 0, b[1], b[2]));
        }
        Watch.items("the first as before", x, 0, 0, 1, 2, 3, 4, 5);
        Watch.items("the second as before", x, 1, 0, 11, 12, 13, 14, 15);
        Check.due("none", 0, x.copy(0, 0, 1, 0, 0));
        Check.due("none at both ends", 0, x.copy(0, 5, 1, 5, 0));
        Watch.items("none came", x, 1, 0, 11, 12, 13, 14, 15);
        Check.due("up to the end of the first", 1, x.copy(0, 4, 1, 0, 1));
        Watch.items("up to the end of the first", x, 1, 0, 5, 12, 13, 14, 15);
        Check.due("up to the end of the second", 2, x.copy(0, 0, 1, 3, 2));
        Watch.items("up to the end of the second", x, 1, 0, 5, 12, 13, 1, 2);
        Check.due("all", 5, x.copy(0, 0, 1, 0, 5));
        Watch.items("all", x, 1, 0, 1, 2, 3, 4, 5);
    }

    private static void placesOfCopyFarOut() {
        Check.sentence("Promise 4: PLACE, with numbers whose sum wraps around");
        MarkedBody x = new MarkedBody();
        x.sheet(0, 2, 5);
        x.sheet(1, 2, 5);
        int[][] beyond = {
            {Check.MOST, 0, 1}, {0, Check.MOST, 1}, {1, 0, Check.MOST}, {0, 1, Check.MOST}, {0, 0, Check.MOST},
            {Check.MOST, 0, Check.MOST}, {0, Check.MOST, Check.MOST}, {Check.LEAST, 0, 1}, {0, Check.LEAST, 1},
            {0, 0, Check.LEAST}, {Check.LEAST, Check.LEAST, Check.LEAST}, {Check.MOST, Check.MOST, 2},
            {Check.MOST, 0, Check.LEAST}, {5, 5, Check.LEAST},
        };
        for (int[] b : beyond) {
            Check.due("far " + b[0] + ", " + b[1] + ", " + b[2], Check.PLACE, x.copy(0, b[0], 1, b[1], b[2]));
        }
    }

    private static void copyOfTwoLengths() {
        Check.sentence("Promise 4: beyond an end (each SHEET has its own)");
        MarkedBody x = Watch.made();
        fill(x, 0, 1, 1, 2, 3);
        x.sheet(1, 1, 40);
        Check.due("three to the end of forty", 3, x.copy(0, 0, 1, 37, 3));
        Watch.items("three to the end of forty", x, 1, 36, 0, 1, 2, 3);
        Check.due("four of three", Check.PLACE, x.copy(0, 0, 1, 36, 4));
        Check.due("four into three", Check.PLACE, x.copy(1, 36, 0, 0, 4));
        Check.due("three into three", 3, x.copy(1, 36, 0, 0, 3));
        Watch.items("three into three", x, 0, 0, 0, 1, 2);
        x.sheet(2, 1, 0);
        Check.due("none of an empty one", 0, x.copy(2, 0, 0, 3, 0));
        Check.due("one of an empty one", Check.PLACE, x.copy(2, 0, 0, 0, 1));
        Check.due("one into an empty one", Check.PLACE, x.copy(0, 0, 2, 0, 1));
        x.sheet(3, 1, 40);
        Check.due("all forty", 40, x.copy(1, 0, 3, 0, 40));
        Watch.items("all forty", x, 3, 36, 0, 1, 2, 3);
    }

    private static void asTheyWereAhead() {
        Check.sentence("Promise 4: n ITEMS come, as they were ahead");
        MarkedBody x = Watch.made();
        fill(x, 0, 0, 1, 2, 3, 4, 5);
        Check.due("up by one", 4, x.copy(0, 0, 0, 1, 4));
        Watch.items("up by one", x, 0, 0, 1, 1, 2, 3, 4);
        fill(x, 0, 0, 1, 2, 3, 4, 5);
        Check.due("down by one", 4, x.copy(0, 1, 0, 0, 4));
        Watch.items("down by one", x, 0, 0, 2, 3, 4, 5, 5);
        fill(x, 0, 2, 1, 2, 3, 4, 5);
        Check.due("up by two", 3, x.copy(0, 0, 0, 2, 3));
        Watch.items("up by two", x, 0, 0, 1, 2, 1, 2, 3);
        Check.due("in its own place", 5, x.copy(0, 0, 0, 0, 5));
        Watch.items("in its own place", x, 0, 0, 1, 2, 1, 2, 3);
    }

    private static void copyMissingAndTwoLanes() {
        Check.sentence("Terms: NULL (a SHEET that is missing), STORE (SHEETS of two LANES); promise 4: NULL; STORE; PLACE");
        MarkedBody x = Watch.made();
        fill(x, 0, 0, 1, 2);
        fill(x, 1, 1, 3, 4);
        fill(x, 2, 2, 5, 6);
        Check.due("the first is missing", Check.NULL, x.copy(7, 0, 0, 0, 1));
        Check.due("the second is missing", Check.NULL, x.copy(0, 0, 7, 0, 1));
        Check.due("NULL ahead of PLACE", Check.NULL, x.copy(7, -1, 0, 99, 1));
        Check.due("NULL ahead of PLACE", Check.NULL, x.copy(0, 99, 7, 0, -1));
        Check.due("none of missing ones", Check.NULL, x.copy(7, 0, 6, 0, 0));
        for (int a = 0; a < 3; a++) {
            for (int b = 0; b < 3; b++) {
                Check.due("lanes " + a + ", " + b, a == b ? 1 : Check.STORE, x.copy(a, 0, b, 0, 1));
                Check.due("no items", a == b ? 0 : Check.STORE, x.copy(a, 0, b, 0, 0));
                Check.due("STORE ahead of PLACE", a == b ? Check.PLACE : Check.STORE, x.copy(a, 9, b, 9, -9));
            }
            Watch.items("as before", x, a, 0, 2 * a + 1, 2 * a + 2);
        }
    }

    private static void drop() {
        Check.sentence("Promise 5: A SHEET is missing from now on: how many ITEMS it had. BAD; NULL");
        MarkedBody x = new MarkedBody();
        int[] lengths = {0, 1, 39, 40};
        for (int n : lengths) {
            x.sheet(7, 1, n);
            Check.due("drop of " + n, n, x.drop(7));
            Check.due("status", 0, x.status());
            Check.due("missing", Check.NULL, x.drop(7));
            Check.due("missing", Check.NULL, x.set(7, 0, 1));
            Check.due("missing", 0, x.count(0));
        }
    }

    private static void statusBeforeAny() {
        Check.sentence("Promise 34: 0: there was none");
        MarkedBody x = new MarkedBody();
        Check.due("new", 0, x.status());
        x.sheet(8, 0, 0);
        x.set(8, 0, 0);
        x.copy(8, 0, 8, 0, 0);
        x.drop(8);
        x.buyers(8, 0, 1);
        x.as(0, 0);
        Check.due("behind BAD ones alone", 0, x.status());
    }

    private static void statusOfEachFinding() {
        Check.sentence("Terms: -1000010 less 1 NULL, 2 PLACE, 3 KIND, 4 SIZE, 5 STORE; promise 34: the number of its FINDING");
        MarkedBody x = Check.told("line plain set 0 1;");
        x.sheet(0, 0, 1);
        x.sheet(1, 1, 1);
        found(x, "set", 1, x.set(2, 0, 0));
        found(x, "set", 2, x.set(0, 1, 0));
        found(x, "copy", 1, x.copy(0, 0, 2, 0, 1));
        found(x, "copy", 5, x.copy(0, 0, 1, 0, 1));
        found(x, "copy", 2, x.copy(0, 0, 0, 1, 1));
        found(x, "drop", 1, x.drop(2));
        found(x, "buyers", 2, x.buyers(0, 1, 1));
        found(x, "buyers", 1, x.buyers(2, 0, 1));
        found(x, "as", 3, x.as(0, 2));
        found(x, "sheet", 4, x.sheet(0, 0, -1));
    }

    private static void statusIsZeroAgain() {
        Check.sentence("Promise 34: 0: it had none");
        MarkedBody x = Check.told("line plain set 0 1;");
        for (int call = 0; call < 6; call++) {
            x.sheet(0, 0, 1);
            found(x, "drop", 1, x.drop(7));
            switch (call) {
                case 0: x.sheet(0, 0, 0); break;
                case 1: x.set(0, 0, 5); break;
                case 2: x.copy(0, 0, 0, 0, 0); break;
                case 3: x.drop(0); break;
                case 4: x.buyers(0, 0, 1); break;
                default: x.as(0, 1); break;
            }
            Check.due("behind call " + call, 0, x.status());
        }
    }

    private static void statusStays() {
        Check.sentence("Promise 34: the latest call with a SHEET, or as(), that was not BAD, STATE, FULL");
        MarkedBody x = Check.told("line plain set 0 1;");
        x.sheet(0, 0, 1);
        x.set(0, 0, 1);
        found(x, "as", 3, x.as(0, 5));
        int[] bad = {x.sheet(0, 3, 1), x.set(8, 0, 0), x.copy(0, 0, 8, 0, 0), x.drop(-1), x.buyers(0, 0, 9),
            x.buyers(0, 0, 1), x.as(0, 6), x.as(1, 0), x.feed(0, 9), x.count(8), x.kind(1), x.ask(0, 2), x.body(1, 0, 0)};
        for (int i = 0; i < bad.length; i++) {
            Check.due("BAD " + i, Check.BAD, bad[i]);
        }
        Check.due("behind BAD", 3, x.status());
        x.end(0);
        Check.due("STATE", Check.STATE, x.end(0));
        Check.due("behind STATE", 3, x.status());
        Check.feed(x, " ".repeat(500));
        Check.due("FULL", Check.FULL, x.feed(32, 1));
        Check.due("behind FULL", 3, x.status());
        x.read();
        Check.fault(x, "x", 0, 1);
        x.ask(0, 0);
        x.buyer(0, 0, 0);
        x.many();
        x.version(1);
        Check.due("behind calls without a SHEET", 3, x.status());
        Check.due("status() itself leaves it", 3, x.status());
    }

    private static void found(MarkedBody x, String call, int number, int answer) {
        Check.due(call, -1000010 - number, answer);
        Check.due("status behind " + call, number, x.status());
    }

    private static void fill(MarkedBody x, int sheet, int lane, int... items) {
        x.sheet(sheet, lane, items.length);
        for (int i = 0; i < items.length; i++) {
            x.set(sheet, i, items[i]);
        }
    }
}
