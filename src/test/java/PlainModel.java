import java.util.ArrayList;
import java.util.Arrays;
import java.util.HashSet;
import java.util.List;
import java.util.Set;
import java.util.TreeSet;

/** The document once more, as slowly and plainly as it can be told, to compare answers with. */
final class PlainModel {
    static final int NONE = -1000000, BAD = -1000001, STATE = -1000002, FULL = -1000003;

    /** A saying: 'm' a MARK, '!' not, '&' and, '|' or. */
    static final class Saying {
        final char sort;
        final int mark;
        final Saying left;
        final Saying right;

        Saying(char sort, int mark, Saying left, Saying right) {
            this.sort = sort;
            this.mark = mark;
            this.left = left;
            this.right = right;
        }

        boolean holds(int kind) {
            switch (sort) {
                case 'm': return (kind >> mark & 1) == 1;
                case '!': return !left.holds(kind);
                case '&': return left.holds(kind) && right.holds(kind);
                default: return left.holds(kind) || right.holds(kind);
            }
        }

        int marks() {
            return sort == 'm' ? 1 : left.marks() + (right == null ? 0 : right.marks());
        }
    }

    static final class Line {
        String sort;
        int buyer = NONE;
        String act;
        int first;
        int second;
        Saying saying;
        int from;
        int ended = NONE;

        int marks() {
            return saying == null ? 0 : saying.marks();
        }

        boolean holds(int kind) {
            return saying == null || saying.holds(kind);
        }
    }

    static final class Mark {
        int under;
        String way;
    }

    static final class Fault extends RuntimeException {
        private static final long serialVersionUID = 1L;
        final int place;
        final int number;

        Fault(int place, int number) {
            this.place = place;
            this.number = number;
        }
    }

    private final long[][] sheets = new long[8][];
    private final int[] lanes = new int[8];
    private String tape = "";
    private int fault = 0;
    private int status = 0;
    private int version = 0;
    private List<Mark> marks = new ArrayList<>();
    private List<Saying> laws = new ArrayList<>();
    private List<Line> lines = new ArrayList<>();
    private final int[][] buyers = new int[8][2];
    private final List<Integer> trace = new ArrayList<>();

    private int finding(int number) {
        status = number;
        return -1000010 - number;
    }

    private int fine(int answer) {
        status = 0;
        return answer;
    }

    private static boolean in(int v, int lo, int hi) {
        return v >= lo && v <= hi;
    }

    int sheet(int sheet, int lane, int n) {
        if (!in(sheet, 0, 7) || !in(lane, 0, 2) || n > 40) return BAD;
        if (n < 0) return finding(4);
        sheets[sheet] = new long[n];
        lanes[sheet] = lane;
        return fine(n);
    }

    int set(int sheet, int i, int v) {
        if (!in(sheet, 0, 7)) return BAD;
        if (sheets[sheet] == null) return finding(1);
        if (!in(i, 0, sheets[sheet].length - 1)) return finding(2);
        int bits = 8 << lanes[sheet];
        long low = v & ((1L << bits) - 1);
        if (low >= 1L << (bits - 1)) low -= 1L << bits;
        sheets[sheet][i] = low;
        return fine((int) low);
    }

    int copy(int a, int i, int b, int j, int n) {
        if (!in(a, 0, 7) || !in(b, 0, 7)) return BAD;
        if (sheets[a] == null || sheets[b] == null) return finding(1);
        if (lanes[a] != lanes[b]) return finding(5);
        if (i < 0 || j < 0 || n < 0 || (long) i + n > sheets[a].length || (long) j + n > sheets[b].length) return finding(2);
        long[] was = sheets[a].clone();
        for (int k = 0; k < n; k++) sheets[b][j + k] = was[i + k];
        return fine(n);
    }

    int drop(int sheet) {
        if (!in(sheet, 0, 7)) return BAD;
        if (sheets[sheet] == null) return finding(1);
        int n = sheets[sheet].length;
        sheets[sheet] = null;
        return fine(n);
    }

    int feed(long w, int n) {
        if (!in(n, 1, 8)) return BAD;
        if (tape.length() + n > 500) return FULL;
        StringBuilder more = new StringBuilder();
        for (int i = 0; i < n; i++) {
            more.insert(0, (char) (w & 255));
            w >>= 8;
        }
        tape += more;
        return tape.length();
    }

    // ---- texts: the tape is cut into TOKENS first, then read from these

    private final List<String> words = new ArrayList<>();
    private final List<Integer> places = new ArrayList<>();
    private int at;
    private int nested;
    private int sayingMarks;
    private List<Mark> newMarks;
    private List<Saying> newLaws;
    private List<Line> newLines;

    private void cut(String text) {
        words.clear();
        places.clear();
        int i = 0;
        while (i < text.length()) {
            char c = text.charAt(i);
            if (c == ' ' || c == '\n') {
                i++;
                continue;
            }
            int j = i + 1;
            String run = c >= 'a' && c <= 'z' ? "abcdefghijklmnopqrstuvwxyz" : c >= '0' && c <= '9' ? "0123456789" : "";
            while (j < text.length() && run.indexOf(text.charAt(j)) >= 0) j++;
            words.add(text.substring(i, j));
            places.add(i);
            i = j;
        }
        words.add("");
        places.add(text.length());
    }

    private String next() {
        return words.get(at);
    }

    private Fault faultHere(int number) {
        return new Fault(places.get(at), number);
    }

    private String oneOf(String... these) {
        for (String s : these) {
            if (s.equals(next())) {
                at++;
                return s;
            }
        }
        throw faultHere(1);
    }

    private int number(int below) {
        if (!next().matches("[0-9]{1,3}")) throw faultHere(1);
        int n = Integer.parseInt(next());
        if (n >= below) throw faultHere(2);
        at++;
        return n;
    }

    private void readAll() {
        while (!next().isEmpty()) {
            String first = next();
            boolean room = first.equals("mark") ? newMarks.size() < 10
                    : first.equals("law") ? newLaws.size() < 8 : newLines.size() < 24;
            if (!first.matches("mark|law|line")) throw faultHere(1);
            if (!room) throw faultHere(3);
            at++;
            if (first.equals("mark")) {
                Mark m = new Mark();
                if (next().equals("root")) {
                    at++;
                    m.under = -1;
                } else {
                    m.under = number(newMarks.size());
                }
                m.way = oneOf("must", "may", "one");
                oneOf(";");
                newMarks.add(m);
            } else if (first.equals("law")) {
                Saying s = wholeSaying();
                oneOf(";");
                newLaws.add(s);
            } else {
                newLines.add(line());
            }
        }
    }

    private Line line() {
        Line l = new Line();
        l.sort = oneOf("plain", "other", "patch");
        if (l.sort.equals("patch")) l.buyer = number(8);
        l.act = oneOf("set", "add", "sum", "mul");
        l.first = number(4);
        l.second = number(l.act.matches("set|add") ? 100 : 4);
        if (oneOf("if", ";").equals("if")) {
            l.saying = wholeSaying();
            oneOf(";");
        }
        l.from = version;
        return l;
    }

    private Saying wholeSaying() {
        nested = 0;
        sayingMarks = 0;
        return saying();
    }

    private Saying saying() {
        Saying s = part();
        while (next().equals("or")) {
            at++;
            s = new Saying('|', 0, s, part());
        }
        return s;
    }

    private Saying part() {
        Saying s = atom();
        while (next().equals("and")) {
            at++;
            s = new Saying('&', 0, s, atom());
        }
        return s;
    }

    private Saying atom() {
        if (next().equals("not") || next().equals("(")) {
            if (nested == 5) throw faultHere(3);
            nested++;
            boolean not = next().equals("not");
            at++;
            Saying s;
            if (not) {
                s = new Saying('!', 0, atom(), null);
            } else {
                s = saying();
                oneOf(")");
            }
            nested--;
            return s;
        }
        int m = number(newMarks.size());
        sayingMarks++;
        if (sayingMarks > 12) {
            at--;
            throw faultHere(3);
        }
        return new Saying('m', m, null, null);
    }

    int read() {
        cut(tape);
        tape = "";
        at = 0;
        newMarks = new ArrayList<>(marks);
        newLaws = new ArrayList<>(laws);
        newLines = new ArrayList<>(lines);
        try {
            readAll();
        } catch (Fault f) {
            fault = f.number;
            return -1000100 - f.place;
        }
        marks = newMarks;
        laws = newLaws;
        lines = newLines;
        allowedMemo = null;
        return lines.size();
    }

    int fault() {
        return fault;
    }

    // ---- kinds

    private int all() {
        return (1 << marks.size()) - 1;
    }

    private boolean isKind(int kind) {
        return kind >= 0 && kind <= all();
    }

    private static boolean has(int kind, int mark) {
        return (kind >> mark & 1) == 1;
    }

    private boolean tree(int kind) {
        for (int m = 0; m < marks.size(); m++) {
            int under = marks.get(m).under;
            boolean reached = under < 0 || has(kind, under);
            if (has(kind, m) && !reached) return false;
            if (marks.get(m).way.equals("must") && reached && !has(kind, m)) return false;
        }
        for (int p = -1; p < marks.size(); p++) {
            if (p >= 0 && !has(kind, p)) continue;
            int some = 0;
            int on = 0;
            for (int m = 0; m < marks.size(); m++) {
                if (marks.get(m).under == p && marks.get(m).way.equals("one")) {
                    some++;
                    if (has(kind, m)) on++;
                }
            }
            if (some > 0 && on != 1) return false;
        }
        return true;
    }

    private boolean isAllowed(int kind, int butLaw) {
        for (int i = 0; i < laws.size(); i++) {
            if (i != butLaw && !laws.get(i).holds(kind)) return false;
        }
        return tree(kind);
    }

    private List<Integer> allowedMemo;

    private List<Integer> allowed() {
        if (allowedMemo == null) allowedMemo = allowedBut(-1);
        return allowedMemo;
    }

    private List<Integer> allowedBut(int law) {
        List<Integer> found = new ArrayList<>();
        for (int kind = 0; kind <= all(); kind++) {
            if (isAllowed(kind, law)) found.add(kind);
        }
        return found;
    }

    int allowed(int kind) {
        return !isKind(kind) ? BAD : isAllowed(kind, -1) ? 1 : 0;
    }

    int holds(int what, int number, int kind) {
        if (!isKind(kind) || !in(what, 0, 1) || !in(number, 0, (what == 0 ? laws.size() : lines.size()) - 1)) return BAD;
        return (what == 0 ? laws.get(number).holds(kind) : lines.get(number).holds(kind)) ? 1 : 0;
    }

    int many() {
        return allowed().size();
    }

    int idle(int what) {
        if (!in(what, 0, 2)) return BAD;
        int bits = 0;
        if (what == 2) {
            for (int i = 0; i < laws.size(); i++) {
                if (allowedBut(i).size() == many()) bits |= 1 << i;
            }
            return bits;
        }
        for (int m = 0; m < marks.size(); m++) {
            boolean every = true;
            for (int kind : allowed()) every &= has(kind, m) == (what == 1);
            if (every) bits |= 1 << m;
        }
        return bits;
    }

    private boolean isChoice(int on, int off) {
        return isKind(on) && isKind(off) && (on & off) == 0;
    }

    int forced(int on, int off, int what) {
        if (!isChoice(on, off) || !in(what, 0, 1)) return BAD;
        int always = all() & ~on & ~off;
        boolean some = false;
        for (int kind : allowed()) {
            if ((kind & on) == on && (kind & off) == 0) {
                some = true;
                always &= what == 0 ? kind : ~kind;
            }
        }
        return some ? always : NONE;
    }

    int nearest(int kind) {
        if (!isKind(kind)) return BAD;
        for (int far = 0; far <= 10; far++) {
            for (int k : allowed()) {
                if (Integer.bitCount(k ^ kind) == far) return k;
            }
        }
        return NONE;
    }

    int why(int on, int off) {
        if (!isChoice(on, off)) return BAD;
        Set<Integer> barred = new HashSet<>();
        for (int kind = 0; kind <= all(); kind++) {
            if ((kind & on) != on || (kind & off) != 0) continue;
            int bars = tree(kind) ? 0 : 256;
            for (int i = 0; i < laws.size(); i++) {
                if (!laws.get(i).holds(kind)) bars |= 1 << i;
            }
            barred.add(bars);
        }
        for (int n = 0; n <= 9; n++) {
            for (int set = 0; set < 512; set++) {
                if (Integer.bitCount(set) != n) continue;
                boolean hits = true;
                for (int bars : barred) hits &= (bars & set) != 0;
                if (hits) return set;
            }
        }
        return NONE;
    }

    // ---- lines

    int version(int v) {
        if (!in(v, version, 9)) return BAD;
        int was = version;
        version = v;
        return was;
    }

    private boolean isLine(int line) {
        return in(line, 0, lines.size() - 1);
    }

    int end(int line) {
        if (!isLine(line)) return BAD;
        if (lines.get(line).ended != NONE) return STATE;
        lines.get(line).ended = version;
        return 1;
    }

    int line(int line, int what) {
        if (!isLine(line) || !in(what, 0, 4)) return BAD;
        Line l = lines.get(line);
        int[] told = {Arrays.asList("plain", "other", "patch").indexOf(l.sort), l.buyer, l.from, l.ended, l.marks()};
        return told[what];
    }

    private boolean meant(int line, int kind, int v, int buyer) {
        if (!isLine(line)) return false;
        Line l = lines.get(line);
        if (l.from > v || l.ended != NONE && l.ended <= v || !l.holds(kind)) return false;
        return !l.sort.equals("patch") || l.buyer == buyer;
    }

    private boolean stands(int line, int kind, int v, int buyer) {
        if (!meant(line, kind, v, buyer)) return false;
        return !(meant(line + 1, kind, v, buyer) && !lines.get(line + 1).sort.equals("plain"));
    }

    private int bodyOf(int kind, int v, int buyer) {
        int bits = 0;
        for (int i = 0; i < lines.size(); i++) {
            if (stands(i, kind, v, buyer)) bits |= 1 << i;
        }
        return bits;
    }

    private boolean isBody(int kind, int v, int buyer) {
        return isKind(kind) && in(v, 0, 9) && (buyer == NONE || in(buyer, 0, 7));
    }

    int body(int kind, int v, int buyer) {
        return isBody(kind, v, buyer) ? bodyOf(kind, v, buyer) : BAD;
    }

    private int[] runOf(int kind, int v, int buyer) {
        int[] cells = {0, 0, 0, 0, NONE};
        boolean[] was = new boolean[4];
        for (int i = 0; i < lines.size(); i++) {
            if (!stands(i, kind, v, buyer)) continue;
            Line l = lines.get(i);
            boolean two = l.act.equals("sum") || l.act.equals("mul");
            if (!l.act.equals("set") && (!was[l.first] || two && !was[l.second]) && cells[4] == NONE) cells[4] = i;
            int a = cells[l.first];
            int b = two ? cells[l.second] : l.second;
            switch (l.act) {
                case "set": cells[l.first] = b; was[l.first] = true; break;
                case "mul": cells[l.first] = a * b % 1000; break;
                default: cells[l.first] = (a + b) % 1000; break;
            }
        }
        return cells;
    }

    int run(int kind, int v, int buyer, int what) {
        return isBody(kind, v, buyer) && in(what, 0, 4) ? runOf(kind, v, buyer)[what] : BAD;
    }

    private int endOf(int kind) {
        return runOf(kind, version, NONE)[0];
    }

    int ends(int i) {
        if (i < -1) return BAD;
        TreeSet<Integer> ends = new TreeSet<>();
        for (int kind : allowed()) ends.add(endOf(kind));
        return i == -1 ? ends.size() : i < ends.size() ? new ArrayList<>(ends).get(i) : NONE;
    }

    int together(int a, int b) {
        if (!in(a, 0, marks.size() - 1) || !in(b, 0, marks.size() - 1) || a == b) return BAD;
        List<Integer> ok = allowed();
        for (int k = 0; k <= all(); k++) {
            if (!has(k, a) || !has(k, b)) continue;
            int ka = k - (1 << a);
            int kb = k - (1 << b);
            int kab = ka - (1 << b);
            if (!ok.contains(k) || !ok.contains(ka) || !ok.contains(kb) || !ok.contains(kab)) continue;
            if (endOf(k) + endOf(kab) != endOf(ka) + endOf(kb)) return k;
        }
        return NONE;
    }

    private Set<Integer> pairs(int kind) {
        Set<Integer> found = new HashSet<>();
        for (int a = 0; a < marks.size(); a++) {
            for (int b = a + 1; b < marks.size(); b++) {
                found.add(a * 1000 + b * 10 + (kind >> a & 1) * 2 + (kind >> b & 1));
            }
        }
        return found;
    }

    int hold(int i) {
        if (i < -1) return BAD;
        Set<Integer> want = new HashSet<>();
        for (int kind : allowed()) want.addAll(pairs(kind));
        List<Integer> picked = new ArrayList<>();
        while (!want.isEmpty()) {
            int best = NONE;
            int most = -1;
            for (int kind : allowed()) {
                Set<Integer> gain = pairs(kind);
                gain.retainAll(want);
                if (gain.size() > most) {
                    best = kind;
                    most = gain.size();
                }
            }
            picked.add(best);
            want.removeAll(pairs(best));
        }
        return i == -1 ? picked.size() : i < picked.size() ? picked.get(i) : NONE;
    }

    private static boolean literal(int kind, int literal) {
        return has(kind, literal / 2) == (literal % 2 == 0);
    }

    int failing(int n, int what) {
        if (!in(n, 0, 999) || !in(what, 0, 1)) return BAD;
        Set<Integer> failing = new HashSet<>();
        for (int kind : allowed()) {
            if (endOf(kind) == n) failing.add(kind);
        }
        if (what == 0) return failing.size();
        int best = NONE;
        int most = 0;
        for (int a = 0; a < 2 * marks.size(); a++) {
            for (int b = a; b < 2 * marks.size(); b++) {
                if (a != b && a / 2 == b / 2) continue;
                int holds = 0;
                boolean alone = true;
                for (int kind : allowed()) {
                    if (literal(kind, a) && literal(kind, b)) {
                        holds++;
                        alone &= failing.contains(kind);
                    }
                }
                int number = a == b ? a : 20 + 20 * a + b;
                if (alone && holds > 0 && (holds > most || holds == most && number < best)) {
                    most = holds;
                    best = number;
                }
            }
        }
        return best;
    }

    // ---- buyers

    int buyer(int buyer, int kind, int v) {
        if (!in(buyer, 0, 7) || !isKind(kind) || !in(v, 0, 9)) return BAD;
        buyers[buyer] = new int[] {kind, v};
        return 1;
    }

    int buyers(int sheet, int i, int n) {
        if (!in(sheet, 0, 7) || !in(n, 1, 8)) return BAD;
        if (sheets[sheet] == null) return finding(1);
        if (i < 0 || (long) i + n > sheets[sheet].length) return finding(2);
        for (int b = 0; b < n; b++) {
            if (!isKind((int) sheets[sheet][i + b])) return BAD;
        }
        for (int b = 0; b < n; b++) buyer(b, (int) sheets[sheet][i + b], version);
        return fine(n);
    }

    int who(int line) {
        if (!isLine(line)) return BAD;
        int bits = 0;
        for (int b = 0; b < 8; b++) {
            if (stands(line, buyers[b][0], buyers[b][1], b)) bits |= 1 << b;
        }
        return bits;
    }

    int alike(int a, int b) {
        if (!in(a, 0, 7) || !in(b, 0, 7)) return BAD;
        return bodyOf(buyers[a][0], buyers[a][1], a) == bodyOf(buyers[b][0], buyers[b][1], b) ? 1 : 0;
    }

    // ---- asked

    private int bodies(int line) {
        int n = 0;
        for (int kind : allowed()) {
            if (stands(line, kind, version, lines.get(line).buyer)) n++;
        }
        return n;
    }

    int kind(int line) {
        if (!isLine(line)) return BAD;
        if (bodies(line) == 0) return 5;
        Line l = lines.get(line);
        return l.sort.equals("patch") ? 4 : l.sort.equals("other") ? 3 : l.saying != null ? 2 : 1;
    }

    private static int above(int kind) {
        int[] above = {-1, 0, 0, 2, 3, 0};
        return above[kind];
    }

    int as(int line, int kind) {
        if (!isLine(line) || !in(kind, 0, 5)) return BAD;
        for (int k = kind(line); k >= 0; k = above(k)) {
            if (k == kind) return fine(line);
        }
        return finding(3);
    }

    int ask(int line, int what) {
        if (!isLine(line) || !in(what, 0, 1)) return BAD;
        trace.clear();
        return asked(line, what);
    }

    private int asked(int line, int what) {
        int[][] told = {{10, 10, 11, 12, 13, 14}, {20, 23, -1, 21, 22, -1}};
        int k = kind(line);
        while (told[what][k] < 0) k = above(k);
        return begin(line, told[what][k]);
    }

    private int begin(int line, int number) {
        if (trace.size() < 16) trace.add(number);
        switch (number) {
            case 10: return bodies(line);
            case 11: return begin(line, 10) + lines.get(line).marks();
            case 12: return begin(line, 11) * 2;
            case 13: return begin(line, 12) + asked(line, 1);
            case 14: return -asked(line, 1);
            case 20: return line;
            case 21: return begin(line, 20) + 100;
            case 22: return begin(line, 21) + lines.get(line).buyer;
            default: return begin(line, 20) + asked(line, 0);
        }
    }

    int trace(int i) {
        return in(i, 0, trace.size() - 1) ? trace.get(i) : NONE;
    }

    int count(int what) {
        if (!in(what, 0, 7)) return BAD;
        int there = 0;
        for (long[] s : sheets) there += s == null ? 0 : 1;
        int idlers = 0;
        int patches = 0;
        for (int i = 0; i < lines.size(); i++) {
            idlers += kind(i) == 5 ? 1 : 0;
            patches += lines.get(i).sort.equals("patch") ? 1 : 0;
        }
        int[] counts = {there, marks.size(), laws.size(), lines.size(), idlers, patches, tape.length(), version};
        return counts[what];
    }

    int status() {
        return status;
    }
}
