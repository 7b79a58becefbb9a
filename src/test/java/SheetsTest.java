/** Promises 1 to 5, and what 34 says of them. */
public final class SheetsTest {
    public static void main(String[] args) {
        newObject();
        sheet();
        set();
        copy();
        drop();
        status();
        Check.end();
    }

    private static void newObject() {
        MarkedBody x = new MarkedBody();
        for (int what = 0; what < 8; what++) {
            Check.due("count", 0, x.count(what));
        }
        Check.due("status", 0, x.status());
        Check.due("fault", 0, x.fault());
        Check.due("trace", Check.NONE, x.trace(0));
        Check.due("many", 1, x.many());
        Check.due("version", 0, x.version(0));
        Check.due("NONE", -1000000, MarkedBody.NONE);
        Check.due("BAD", -1000001, MarkedBody.BAD);
        Check.due("STATE", -1000002, MarkedBody.STATE);
        Check.due("FULL", -1000003, MarkedBody.FULL);
    }

    private static void sheet() {
        MarkedBody x = new MarkedBody();
        Check.due("no such sheet", Check.BAD, x.sheet(8, 0, 1));
        Check.due("sheet below 0", Check.BAD, x.sheet(-1, 0, 1));
        Check.due("no such lane", Check.BAD, x.sheet(0, 3, 1));
        Check.due("lane below 0", Check.BAD, x.sheet(0, -1, 1));
        Check.due("above 40", Check.BAD, x.sheet(0, 0, 41));
        Check.due("bad ahead of size", Check.BAD, x.sheet(0, 3, -1));
        Check.due("size", Check.SIZE, x.sheet(0, 0, -1));
        Check.due("still missing", 0, x.count(0));
        Check.due("empty", 0, x.sheet(0, 0, 0));
        Check.due("empty is there", 1, x.count(0));
        Check.due("no place in empty", Check.PLACE, x.set(0, 0, 1));
        Check.due("full", 40, x.sheet(7, 2, 40));
        Check.due("last place", 77, x.set(7, 39, 77));
        Check.due("anew", 40, x.sheet(7, 2, 40));
        Check.due("one more sheet", 1, x.sheet(6, 2, 1));
        Check.due("zero again", 1, x.copy(7, 39, 6, 0, 1));
        Check.read(x, "mark root may;");
        Check.due("items are 0 anew", 1, x.buyers(6, 0, 1));
        Check.due("size keeps what is there", Check.SIZE, x.sheet(7, 0, -5));
        Check.due("its lane stays", 1 << 20, x.set(7, 39, 1 << 20));
    }

    private static void set() {
        MarkedBody x = new MarkedBody();
        Check.due("bad", Check.BAD, x.set(8, 0, 0));
        Check.due("null", Check.NULL, x.set(0, 0, 0));
        x.sheet(0, 0, 2);
        x.sheet(1, 1, 2);
        x.sheet(2, 2, 2);
        Check.due("byte", -128, x.set(0, 0, 128));
        Check.due("byte", 127, x.set(0, 1, 127));
        Check.due("byte", -1, x.set(0, 1, 255));
        Check.due("byte", 0, x.set(0, 1, 256));
        Check.due("short", -32768, x.set(1, 0, 32768));
        Check.due("short", 1, x.set(1, 0, 65537));
        Check.due("int", Integer.MIN_VALUE, x.set(2, 0, Integer.MIN_VALUE));
        Check.due("place", Check.PLACE, x.set(0, 2, 0));
        Check.due("place", Check.PLACE, x.set(0, -1, 0));
        Check.due("place", Check.PLACE, x.set(0, Integer.MIN_VALUE, 0));
    }

    private static void copy() {
        MarkedBody x = Check.told("mark root may;mark root may;mark root may;line plain set 0 1 if 0;"
                + "line plain set 0 1 if 1;line plain set 0 1 if 2;");
        Check.due("bad", Check.BAD, x.copy(0, 0, 8, 0, 0));
        Check.due("bad", Check.BAD, x.copy(-1, 0, 0, 0, 0));
        Check.due("null", Check.NULL, x.copy(0, 0, 1, 0, 0));
        x.sheet(0, 0, 5);
        Check.due("null of the second", Check.NULL, x.copy(0, 9, 1, 9, -9));
        Check.due("null of the first", Check.NULL, x.copy(1, 9, 0, 9, -9));
        x.sheet(1, 1, 5);
        Check.due("store ahead of place", Check.STORE, x.copy(0, 9, 1, 9, -9));
        Check.due("place i", Check.PLACE, x.copy(0, -1, 0, 0, 1));
        Check.due("place j", Check.PLACE, x.copy(0, 0, 0, -1, 1));
        Check.due("place n", Check.PLACE, x.copy(0, 0, 0, 0, -1));
        Check.due("beyond", Check.PLACE, x.copy(0, 3, 0, 0, 3));
        Check.due("beyond", Check.PLACE, x.copy(0, 0, 0, 3, 3));
        Check.due("beyond", Check.PLACE, x.copy(0, Integer.MAX_VALUE, 0, 0, Integer.MAX_VALUE));
        Check.due("none at the end", 0, x.copy(0, 5, 0, 5, 0));
        for (int i = 0; i < 5; i++) {
            x.set(0, i, i);
        }
        Check.due("over itself", 4, x.copy(0, 0, 0, 1, 4));
        x.buyers(0, 0, 5);
        Check.due("0 0 1 2 3", 0b10100, x.who(0));
        Check.due("0 0 1 2 3", 0b11000, x.who(1));
        Check.due("back over itself", 4, x.copy(0, 1, 0, 0, 4));
        x.buyers(0, 0, 5);
        Check.due("0 1 2 3 3", 0b11010, x.who(0));
        Check.due("0 1 2 3 3", 0b11100, x.who(1));
    }

    private static void drop() {
        MarkedBody x = new MarkedBody();
        Check.due("bad", Check.BAD, x.drop(8));
        Check.due("bad", Check.BAD, x.drop(-1));
        Check.due("null", Check.NULL, x.drop(0));
        x.sheet(0, 1, 7);
        Check.due("seven", 7, x.drop(0));
        Check.due("null again", Check.NULL, x.drop(0));
        Check.due("missing", Check.NULL, x.set(0, 0, 0));
        Check.due("none there", 0, x.count(0));
    }

    private static void status() {
        MarkedBody x = Check.told("line plain set 0 1;");
        x.drop(0);
        Check.due("null", 1, x.status());
        x.drop(9);
        x.count(99);
        Check.due("bad leaves it", 1, x.status());
        x.sheet(0, 0, 1);
        Check.due("none", 0, x.status());
        x.set(0, 1, 0);
        Check.due("place", 2, x.status());
        x.as(0, 5);
        Check.due("kind", 3, x.status());
        x.as(0, 6);
        Check.due("bad leaves it", 3, x.status());
        x.as(0, 0);
        Check.due("none", 0, x.status());
        x.sheet(0, 0, -1);
        Check.due("size", 4, x.status());
        x.end(0);
        x.end(0);
        x.many();
        Check.due("others leave it", 4, x.status());
        x.sheet(1, 1, 1);
        x.copy(0, 0, 1, 0, 1);
        Check.due("store", 5, x.status());
        x.set(0, 0, 1);
        x.copy(0, 0, 1, 0, 1);
        Check.due("bad behind findings leaves it", Check.BAD, x.buyers(0, 0, 1));
        Check.due("store still", 5, x.status());
        x.buyers(1, 0, 1);
        Check.due("none", 0, x.status());
        x.buyers(1, 1, 1);
        Check.due("place", 2, x.status());
        x.buyers(2, 0, 1);
        Check.due("null", 1, x.status());
    }
}
