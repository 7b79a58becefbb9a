/** Promises 9 to 15: which KINDS are ALLOWED and what follows from it. */
public final class KindsTest {
    private static final String TREE = "mark root must;mark 0 one;mark 0 one;mark 0 one;mark root may;"
            + "mark 4 must;mark 4 may;";

    public static void main(String[] args) {
        allowed();
        holds();
        manyAndIdle();
        forced();
        nearest();
        why();
        Check.end();
    }

    private static void allowed() {
        MarkedBody x = Check.told(TREE);
        int[] yes = {3, 5, 9, 51, 53, 57, 115, 117, 121};
        int n = 0;
        for (int kind = 0; kind < 128; kind++) {
            boolean due = n < yes.length && yes[n] == kind;
            n += due ? 1 : 0;
            Check.due("allowed " + kind, due ? 1 : 0, x.allowed(kind));
        }
        Check.due("no such mark", Check.BAD, x.allowed(128));
        Check.due("below 0", Check.BAD, x.allowed(-1));
        Check.due("below 0", Check.BAD, x.allowed(Integer.MIN_VALUE));
        x = Check.told("mark root one;mark root one;mark 0 one;mark 0 one;mark 1 must;");
        Check.due("each by itself", 3, x.many());
        Check.due("one under root, one under it", 1, x.allowed(0b00101));
        Check.due("one under root, one under it", 1, x.allowed(0b01001));
        Check.due("without those under it", 1, x.allowed(0b10010));
        Check.due("without its must", 0, x.allowed(0b00010));
        Check.due("both", 0, x.allowed(0b01101));
        Check.due("none under root", 0, x.allowed(0));
        x = Check.told("mark root one;");
        Check.due("one alone", 1, x.many());
        Check.due("one alone", 1, x.allowed(1));
        Check.read(x, "law not 0;");
        Check.due("by a law", 0, x.allowed(1));
    }

    private static void holds() {
        MarkedBody x = Check.told("mark root may;mark root may;law 0 and not 1;line plain set 0 1 if 0 or 1;"
                + "line plain set 0 1;");
        Check.due("law", 0, x.holds(0, 0, 0));
        Check.due("law", 1, x.holds(0, 0, 1));
        Check.due("law", 0, x.holds(0, 0, 3));
        Check.due("line", 0, x.holds(1, 0, 0));
        Check.due("line", 1, x.holds(1, 0, 2));
        Check.due("without a saying", 1, x.holds(1, 1, 0));
        Check.due("no such law", Check.BAD, x.holds(0, 1, 0));
        Check.due("no such law", Check.BAD, x.holds(0, -1, 0));
        Check.due("no such line", Check.BAD, x.holds(1, 2, 0));
        Check.due("no such what", Check.BAD, x.holds(2, 0, 0));
        Check.due("no such what", Check.BAD, x.holds(-1, 0, 0));
        Check.due("no such kind", Check.BAD, x.holds(0, 0, 4));
        Check.due("no such kind", Check.BAD, x.holds(1, 1, -1));
    }

    private static void manyAndIdle() {
        MarkedBody x = new MarkedBody();
        Check.due("of no marks the empty one", 1, x.many());
        Check.due("bad", Check.BAD, x.idle(3));
        Check.due("bad", Check.BAD, x.idle(-1));
        x = Check.told("mark root may;");
        Check.due("none dead", 0, x.idle(0));
        Check.due("none sure", 0, x.idle(1));
        x = Check.told("mark root must;mark root may;mark root may;mark 1 may;law not 2;law not 2 or 1;law 0;"
                + "law not 3 or 2;");
        Check.due("many", 2, x.many());
        Check.due("dead", 0b1100, x.idle(0));
        Check.due("sure", 0b0001, x.idle(1));
        Check.due("idle", 0b0110, x.idle(2));
        Check.read(x, "law not 2;");
        Check.due("two that say the same are both idle", 0b10111, x.idle(2));
        Check.read(x, "law not 0;");
        Check.due("none", 0, x.many());
        Check.due("dead of none", 0b1111, x.idle(0));
        Check.due("sure of none", 0b1111, x.idle(1));
        Check.due("idle of none", 0b011111, x.idle(2));
    }

    private static void forced() {
        MarkedBody x = Check.told(TREE);
        Check.due("on", 33, x.forced(16, 0, 0));
        Check.due("off", 0, x.forced(16, 0, 1));
        Check.due("on", 1, x.forced(0, 32, 0));
        Check.due("off", 80, x.forced(0, 32, 1));
        Check.due("chosen ones are not open", 0, x.forced(1, 0, 0));
        Check.due("none goes with it", Check.NONE, x.forced(6, 0, 0));
        Check.due("none goes with it", Check.NONE, x.forced(0, 1, 1));
        Check.due("both", Check.BAD, x.forced(3, 2, 0));
        Check.due("not there", Check.BAD, x.forced(128, 0, 0));
        Check.due("not there", Check.BAD, x.forced(0, 128, 0));
        Check.due("not there", Check.BAD, x.forced(-1, 0, 0));
        Check.due("what", Check.BAD, x.forced(0, 0, 2));
        Check.due("what", Check.BAD, x.forced(0, 0, -1));
        Check.due("bad ahead of none", Check.BAD, x.forced(6, 0, 2));
    }

    private static void nearest() {
        MarkedBody x = Check.told(TREE);
        Check.due("itself", 53, x.nearest(53));
        Check.due("the least of several", 3, x.nearest(0));
        Check.due("the least of several", 3, x.nearest(1));
        Check.due("the fewest unlike", 115, x.nearest(127));
        Check.due("the fewest unlike", 9, x.nearest(8));
        Check.due("bad", Check.BAD, x.nearest(128));
        Check.due("bad", Check.BAD, x.nearest(-1));
        Check.due("the highest kind", 1, Check.told("mark root must;").nearest(0));
        Check.read(x, "law not 0;");
        Check.due("none", Check.NONE, x.nearest(3));
        Check.due("bad ahead of none", Check.BAD, x.nearest(128));
    }

    private static void why() {
        MarkedBody x = Check.told("mark root may;mark root may;mark 1 may;law not 0;law 1 or 2;law not 1;law not 0 or 1;"
                + "law not 0;");
        Check.due("an allowed one", Check.NONE, Check.told("mark root may;").why(1, 0));
        Check.due("one law, the least", 0b1, x.why(1, 0));
        Check.due("two laws and the tree", 0b100000110, x.why(0, 1));
        Check.due("one law of two", 0b100, x.why(2, 0));
        Check.due("the tree", 256, x.why(4, 2));
        Check.due("law of open ones", 2, x.why(0, 6));
        Check.due("bad", Check.BAD, x.why(8, 0));
        Check.due("bad", Check.BAD, x.why(0, -1));
        Check.due("bad", Check.BAD, x.why(1, 1));
        x = Check.told("mark root may;mark root may;law 0;law 1;law not 0 or not 1;law not 1;");
        Check.due("fewest ahead of least", 0b1010, x.why(0, 0));
        x = Check.told("mark root must;mark 0 must;law 0 or 1;law not 1;law not 0;");
        Check.due("the tree and one law, the least", 0b100000010, x.why(0, 0));
    }
}
