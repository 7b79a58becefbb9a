import java.util.Random;

/** Runs of calls by fixed seeds: every answer must be that of the plain model, and no call may throw. */
public final class RandomRunsTest {
    private static final int RUNS = 3000, CALLS = 450;
    private static final int[] ODD = {-1, -2, Integer.MIN_VALUE, Integer.MAX_VALUE, MarkedBody.NONE, 1024, 500, 64, 41, 24};
    private final Random random;
    private final MarkedBody x = new MarkedBody();
    private final PlainModel y = new PlainModel();
    private final StringBuilder told = new StringBuilder();
    private int calls = 0;
    private boolean good = true;
    private int marks = 0;
    private boolean isFree = false;

    private RandomRunsTest(long seed) {
        random = new Random(seed);
    }

    public static void main(String[] args) {
        int wrong = 0;
        for (int seed = 0; seed < RUNS && wrong < 3; seed++) {
            RandomRunsTest run = new RandomRunsTest(seed);
            run.go();
            if (!run.good) {
                wrong++;
                System.out.println("seed " + seed + ":\n" + run.told);
            }
        }
        System.out.println(RUNS + " runs, " + wrong + " wrong");
        if (wrong != 0) System.exit(1);
    }

    private void same(String call, long want, long got) {
        calls++;
        told.append("  ").append(call).append(" = ").append(got).append('\n');
        if (want != got && good) {
            good = false;
            told.append("  due is ").append(want).append('\n');
            System.out.println(call + " answered " + got + ", due is " + want);
        }
    }

    private int below(int n) {
        return random.nextInt(n);
    }

    /** Mostly a number below n, at times one that is a little or far outside. */
    private int about(int n) {
        int how = below(40);
        if (how == 0) return ODD[below(ODD.length)];
        if (how == 1) return n;
        if (how == 2) return -1;
        return below(Math.max(1, n));
    }

    /** A NUMBER in a text; an odd one spoils the whole text, so it is rare. */
    private int figure(int n) {
        return below(150) == 0 ? below(2000) : below(Math.max(1, n));
    }

    private int kind() {
        return below(30) == 0 ? about(1 << 11) : below(1 << marks);
    }

    private void go() {
        isFree = below(2) == 0;
        text(marksText(1 + below(9)));
        if (below(3) == 0) afterMarks();
        text("line plain set 0 7;line plain set 1 3;" + lineText() + lineText() + lineText() + lineText());
        while (calls < CALLS && good) {
            int what = below(20);
            if (what == 0 && below(2) == 0) text(someText());
            else if (what < 3) sheets();
            else if (what < 8) kinds();
            else if (what < 13) lines();
            else if (what < 15) buyers();
            else asks();
        }
        for (int b = 0; b < marks && good; b++) {
            for (int a = 0; a < b; a++) {
                same("together " + a + " " + b, y.together(a, b), x.together(a, b));
            }
        }
    }

    /** Sweeps early too, while no law has come. */
    private void afterMarks() {
        text("line plain set 0 7;" + lineText() + lineText());
        for (int a = 1; a < marks; a++) {
            same("together 0 " + a, y.together(0, a), x.together(0, a));
        }
    }

    // ---- texts

    private String marksText(int n) {
        String[] ways = {"must", "may", "may", "one"};
        StringBuilder s = new StringBuilder();
        for (int i = 0; i < n; i++) {
            int there = marks + i;
            String under = there == 0 || below(2) == 0 ? "root" : String.valueOf(below(there));
            String way = isFree && below(16) > 0 ? "may" : ways[below(4)];
            s.append("mark ").append(isFree ? "root" : under).append(' ').append(way).append(';');
        }
        return s.toString();
    }

    private String saying(int deep) {
        int how = below(10);
        if (deep > 2 + below(5) || how < 4) return String.valueOf(figure(marks));
        if (how < 6) return "not " + saying(deep + 1);
        if (how < 7) return "(" + saying(deep + 1) + ")";
        return saying(deep + 1) + (how == 8 ? " and " : " or ") + saying(deep + 1);
    }

    private String lineText() {
        String[] sorts = {"plain", isFree ? "plain" : "patch " + figure(3), "other", "patch " + figure(8)};
        String[] acts = {"set", "add", "add", "sum", "mul"};
        String act = acts[below(5)];
        int second = act.equals("set") || act.equals("add") ? figure(below(2) == 0 ? 100 : 4) : figure(3);
        int first = below(2) == 0 ? 0 : figure(4);
        String s = "line " + sorts[below(4)] + " " + act + " " + first + " " + second;
        return s + (below(3) > 0 ? " if " + saying(1) : "") + ";";
    }

    private String someText() {
        StringBuilder s = new StringBuilder();
        int n = 1 + below(6);
        for (int i = 0; i < n; i++) {
            int how = below(12);
            if (how == 0) s.append(marksText(1));
            else if (how == 1) s.append("law ").append(saying(0)).append(';');
            else s.append(lineText());
            if (below(5) == 0) s.append(below(2) == 0 ? "\n" : "  ");
        }
        if (below(4) == 0) spoil(s);
        return s.toString();
    }

    private void spoil(StringBuilder s) {
        String signs = "();09amx !\n\u00e9";
        int at = below(s.length());
        switch (below(4)) {
            case 0: s.deleteCharAt(at); break;
            case 1: s.insert(at, signs.charAt(below(signs.length()))); break;
            case 2: s.setCharAt(at, signs.charAt(below(signs.length()))); break;
            default: s.setLength(at); break;
        }
    }

    private void text(String text) {
        int at = 0;
        while (at < text.length()) {
            int n = Math.min(text.length() - at, below(4) == 0 ? 1 + below(8) : 8);
            long w = random.nextLong();
            for (int i = 0; i < n; i++) w = w << 8 | text.charAt(at + i) & 255;
            at += n;
            same("feed(" + w + ", " + n + ")", y.feed(w, n), x.feed(w, n));
        }
        if (below(20) == 0) same("feed(1, 9)", y.feed(1, 9), x.feed(1, 9));
        if (below(20) == 0) return;
        told.append(text).append('\n');
        same("read()", y.read(), x.read());
        same("fault()", y.fault(), x.fault());
        marks = y.count(1);
        same("count(1)", marks, x.count(1));
    }

    // ---- the rest

    private void sheets() {
        int s = about(4);
        int n = about(10);
        int v = about(1 << marks);
        switch (below(6)) {
            case 0: same("sheet", y.sheet(s, n % 4, v % 45), x.sheet(s, n % 4, v % 45)); break;
            case 1: same("set", y.set(s, n, v), x.set(s, n, v)); break;
            case 2:
                v = random.nextInt();
                same("set", y.set(s, n, v), x.set(s, n, v));
                break;
            case 3:
                int b = about(4);
                int j = about(5);
                int m = about(6);
                same("copy", y.copy(s, n, b, j, m), x.copy(s, n, b, j, m));
                break;
            case 4:
                if (below(5) == 0) same("drop", y.drop(s), x.drop(s));
                else same("sheet", y.sheet(s, 2, 10), x.sheet(s, 2, 10));
                break;
            default: same("copy", y.copy(s, 0, s, 1, n), x.copy(s, 0, s, 1, n)); break;
        }
        same("status()", y.status(), x.status());
    }

    private void kinds() {
        int k = kind();
        int on = kind() & kind();
        int off = kind() & kind() & (below(15) == 0 ? -1 : ~on);
        int w = about(2);
        switch (below(8)) {
            case 0: same("allowed " + k, y.allowed(k), x.allowed(k)); break;
            case 1:
                int number = about(6);
                same("holds " + w + " " + number + " " + k, y.holds(w, number, k), x.holds(w, number, k));
                break;
            case 2: same("many", y.many(), x.many()); break;
            case 3: same("idle " + (w + k % 2), y.idle(w + k % 2), x.idle(w + k % 2)); break;
            case 4:
            case 5: same("forced " + on + " " + off + " " + w, y.forced(on, off, w), x.forced(on, off, w)); break;
            case 6: same("nearest " + k, y.nearest(k), x.nearest(k)); break;
            default: same("why " + on + " " + off, y.why(on, off), x.why(on, off)); break;
        }
    }

    private int buyerOrNone() {
        return below(3) == 0 ? MarkedBody.NONE : about(8);
    }

    private void lines() {
        int line = about(y.count(3));
        int k = kind();
        int v = below(3) == 0 ? about(10) : y.count(7);
        int b = buyerOrNone();
        int i;
        switch (below(12)) {
            case 0:
                v = below(8) == 0 ? v : y.count(7);
                same("version " + v, y.version(v), x.version(v));
                break;
            case 1:
                if (below(4) == 0) same("end " + line, y.end(line), x.end(line));
                break;
            case 2:
                i = about(5);
                same("line " + line + " " + i, y.line(line, i), x.line(line, i));
                break;
            case 3:
            case 4: same("body " + k + " " + v + " " + b, y.body(k, v, b), x.body(k, v, b)); break;
            case 5:
            case 6:
                i = about(5);
                same("run " + k + " " + v + " " + b + " " + i, y.run(k, v, b, i), x.run(k, v, b, i));
                break;
            case 7:
                i = about(8) - 1;
                same("ends " + i, y.ends(i), x.ends(i));
                break;
            case 8:
                i = about(marks);
                int j = about(marks);
                same("together " + i + " " + j, y.together(i, j), x.together(i, j));
                break;
            case 9:
                i = about(12) - 1;
                if (below(2) == 0) same("hold " + i, y.hold(i), x.hold(i));
                break;
            default:
                int n = below(3) == 0 ? about(1000) : y.ends(below(Math.max(1, y.ends(-1))));
                i = about(2);
                same("failing " + n + " " + i, y.failing(n, i), x.failing(n, i));
                break;
        }
    }

    private void buyers() {
        int b = about(8);
        int k = kind();
        int v = about(10);
        int line = about(y.count(3));
        int s = about(4);
        int i = about(5);
        switch (below(4)) {
            case 0: same("buyer " + b + " " + k + " " + v, y.buyer(b, k, v), x.buyer(b, k, v)); break;
            case 1: same("buyers " + s + " " + i + " " + b, y.buyers(s, i, b), x.buyers(s, i, b)); break;
            case 2: same("who " + line, y.who(line), x.who(line)); break;
            default:
                int a = about(8);
                same("alike " + a + " " + b, y.alike(a, b), x.alike(a, b));
                break;
        }
        same("status()", y.status(), x.status());
    }

    private void asks() {
        int line = about(y.count(3));
        int i = about(6);
        switch (below(5)) {
            case 0: same("kind " + line, y.kind(line), x.kind(line)); break;
            case 1:
                same("as " + line + " " + i, y.as(line, i), x.as(line, i));
                same("status()", y.status(), x.status());
                break;
            case 2:
            case 3:
                int w = about(2);
                same("ask " + line + " " + w, y.ask(line, w), x.ask(line, w));
                for (int t = 0; t < 8; t++) same("trace " + t, y.trace(t), x.trace(t));
                break;
            default:
                int c = about(8);
                same("count " + c, y.count(c), x.count(c));
                break;
        }
    }
}
