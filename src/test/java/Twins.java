import java.util.ArrayList;
import java.util.List;
import java.util.function.Consumer;
import java.util.function.ToIntFunction;

/**
 * Two objects that are told the same, one of which is refused a call besides: what both answer behind it must be the
 * same. The questions come in parts, each put to two new objects, so that none of them has more than 512 calls.
 */
final class Twins {
    private static final int PARTS = 16;
    private final MarkedBody x;
    private final List<String> answers = new ArrayList<>();

    private Twins(MarkedBody x) {
        this.x = x;
    }

    /** A call that is refused or has a FINDING: its answer, and that nothing but status() is changed by it. */
    static void refused(String name, Consumer<MarkedBody> tell, ToIntFunction<MarkedBody> call, int due) {
        for (int part = 0; part < PARTS; part++) {
            MarkedBody plain = new MarkedBody();
            MarkedBody other = new MarkedBody();
            tell.accept(plain);
            tell.accept(other);
            int status = plain.status();
            other.status();
            int got = call.applyAsInt(other);
            if (part == 0) {
                Check.due(name, due, got);
                boolean isFinding = due <= Check.NULL && due >= Check.STORE;
                Check.due("status behind " + name, isFinding ? -1000010 - due : status, other.status());
                Check.due("fault behind " + name, plain.fault(), other.fault());
            }
            same(name, part, plain, other);
        }
    }

    /** A text with a FAULT: nothing of it comes, and the tape is empty as before. */
    static void faulty(String text, Consumer<MarkedBody> tell, int place, int number) {
        for (int part = 0; part < PARTS; part++) {
            MarkedBody plain = new MarkedBody();
            MarkedBody other = new MarkedBody();
            tell.accept(plain);
            tell.accept(other);
            plain.read();
            other.read();
            Check.fault(other, text, place, number);
            Check.due("status behind '" + text + "'", plain.status(), other.status());
            same("read of '" + text + "'", part, plain, other);
        }
    }

    private static void same(String name, int part, MarkedBody plain, MarkedBody other) {
        List<String> want = ask(part, plain);
        List<String> got = ask(part, other);
        int unlike = 0;
        for (int i = 0; i < want.size(); i++) {
            if (!want.get(i).equals(got.get(i))) {
                unlike++;
                System.out.println("behind " + name + ": " + got.get(i) + ", else " + want.get(i));
            }
        }
        Check.due("answers that are changed by " + name, 0, unlike);
    }

    private static List<String> ask(int part, MarkedBody x) {
        Twins asker = new Twins(x);
        if (part < 8) {
            asker.sheet(part);
            return asker.answers;
        }
        switch (part) {
            case 8: asker.counts(); break;
            case 9: asker.lines(); break;
            case 10: asker.kinds(); break;
            case 11: asker.choices(); break;
            case 12: asker.bodies(); break;
            case 13: asker.ends(); break;
            case 14: asker.buyers(); break;
            default: asker.nextText(); break;
        }
        return asker.answers;
    }

    private void note(String call, int answer) {
        answers.add(call + " = " + answer);
    }

    /** Its ITEMS by the KINDS that buyers() takes, its LANE by what set() leaves of a wide number, its length. */
    private void sheet(int s) {
        for (int i = 0; i < 12; i++) {
            note("buyers " + i, x.buyers(s, i, 1));
            for (int line = 0; line < 8; line++) {
                note("who " + line, x.who(line) & 1);
            }
        }
        for (int i = -1; i <= 40; i++) {
            note("set " + i, x.set(s, i, 0x1234567));
        }
        for (int other = 0; other < 8; other++) {
            note("copy " + other, x.copy(s, 0, other, 0, 0));
        }
        note("drop", x.drop(s));
    }

    private void counts() {
        for (int what = 0; what < 8; what++) {
            note("count " + what, x.count(what));
        }
        for (int i = 0; i <= 16; i++) {
            note("trace " + i, x.trace(i));
        }
        for (int what = 0; what < 3; what++) {
            note("idle " + what, x.idle(what));
        }
        note("many", x.many());
        note("version", x.version(x.count(7)));
    }

    private void lines() {
        for (int line = 0; line < 24; line++) {
            for (int what = 0; what < 5; what++) {
                note("line " + line + " " + what, x.line(line, what));
            }
            note("kind " + line, x.kind(line));
            note("who " + line, x.who(line));
            note("ask " + line, x.ask(line, line % 2));
            note("trace", x.trace(0));
            note("end " + line, x.end(line));
        }
    }

    private void kinds() {
        for (int kind = 0; kind < 64; kind++) {
            note("allowed " + kind, x.allowed(kind));
            note("nearest " + kind, x.nearest(kind));
        }
        for (int number = 0; number < 24; number++) {
            for (int kind = 0; kind < 16; kind += 5) {
                note("law " + number + " of " + kind, x.holds(0, number, kind));
                note("line " + number + " of " + kind, x.holds(1, number, kind));
            }
        }
    }

    private void choices() {
        for (int on = 0; on < 8; on++) {
            for (int off = 0; off < 32; off += 3) {
                note("forced on " + on + " " + off, x.forced(on, off, 0));
                note("forced off " + on + " " + off, x.forced(on, off, 1));
                note("why " + on + " " + off, x.why(on, off));
            }
        }
    }

    private void bodies() {
        for (int kind = 0; kind < 16; kind += 3) {
            for (int v = 0; v < 10; v += 2) {
                for (int b = -1; b < 4; b++) {
                    int buyer = b < 0 ? Check.NONE : b;
                    note("body " + kind + " " + v + " " + b, x.body(kind, v, buyer));
                    note("run " + kind + " " + v + " " + b, x.run(kind, v, buyer, v / 2));
                }
            }
        }
    }

    private void ends() {
        for (int i = -1; i < 16; i++) {
            note("ends " + i, x.ends(i));
            note("hold " + i, x.hold(i));
        }
        for (int a = 0; a < 5; a++) {
            for (int b = a + 1; b < 6; b++) {
                note("together " + a + " " + b, x.together(a, b));
            }
        }
        for (int n = 0; n < 100; n++) {
            note("failing " + n, x.failing(n, 0));
            note("weakest " + n, x.failing(n, 1));
        }
    }

    private void buyers() {
        for (int a = 0; a < 8; a++) {
            for (int b = 0; b < a; b++) {
                note("alike " + a + " " + b, x.alike(a, b));
            }
        }
        for (int line = 0; line < 24; line++) {
            note("who " + line, x.who(line));
        }
    }

    /** What is on the tape still, and how a text is read behind it. */
    private void nextText() {
        note("bytes", x.count(6));
        note("read", x.read());
        note("bytes", x.count(6));
        Check.feed(x, "mark root may;law 0 or not 0;line plain add 0 3;line other set 1 2 if 0;");
        note("read", x.read());
        lines();
    }
}
