/**
 * An object that shows the ITEMS of its SHEETS: it has ten MARKS, and LINE m stands where MARK m is on, so what
 * buyers() takes from a SHEET is told by who().
 */
final class Watch {
    private static final int MARKS = 10;

    static MarkedBody made() {
        StringBuilder text = new StringBuilder("mark root may;".repeat(MARKS));
        for (int m = 0; m < MARKS; m++) {
            text.append("line plain set 0 1 if ").append(m).append(';');
        }
        return Check.told(text.toString());
    }

    /** ITEMS of a SHEET from i on (up to eight, each 0 to 1023) must be these. */
    static void items(String call, MarkedBody x, int sheet, int i, int... due) {
        Check.due(call + ": buyers", due.length, x.buyers(sheet, i, due.length));
        int[] found = new int[due.length];
        for (int m = 0; m < MARKS; m++) {
            int who = x.who(m);
            for (int b = 0; b < due.length; b++) {
                found[b] |= (who >> b & 1) << m;
            }
        }
        for (int b = 0; b < due.length; b++) {
            Check.due(call + ": item " + (i + b), due[b], found[b]);
        }
    }

    private Watch() {
    }
}
