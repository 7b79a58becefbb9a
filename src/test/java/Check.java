/** Counts answers that are not due, and makes texts and long statements for the tests. */
final class Check {
    static final int NONE = MarkedBody.NONE, BAD = MarkedBody.BAD, STATE = MarkedBody.STATE, FULL = MarkedBody.FULL;
    static final int NULL = -1000011, PLACE = -1000012, KIND = -1000013, SIZE = -1000014, STORE = -1000015;
    private static int wrong = 0;
    private static int seen = 0;

    static void due(String call, long want, long got) {
        seen++;
        if (want != got) {
            wrong++;
            System.out.println(call + " answered " + got + ", due is " + want);
        }
    }

    static void end() {
        System.out.println(seen + " answers looked at, " + wrong + " wrong");
        if (wrong != 0 || seen == 0) {
            System.exit(1);
        }
    }

    /** Feeds a text in pieces of up to 8 bytes. */
    static void feed(MarkedBody x, String text) {
        for (int at = 0; at < text.length(); at += 8) {
            int n = Math.min(8, text.length() - at);
            long w = 0;
            for (int i = 0; i < n; i++) {
                w = w << 8 | text.charAt(at + i) & 255;
            }
            x.feed(w, n);
        }
    }

    static int read(MarkedBody x, String text) {
        feed(x, text);
        return x.read();
    }

    static MarkedBody told(String text) {
        MarkedBody x = new MarkedBody();
        int got = read(x, text);
        if (got < 0) {
            due("read of " + text, 0, got);
        }
        return x;
    }

    /** The text has a FAULT at a place (below 0: none), and what is due of it. */
    static void fault(MarkedBody x, String text, int place, int number) {
        due("read of '" + text + "'", -1000100 - place, read(x, text));
        due("fault of '" + text + "'", number, x.fault());
        due("bytes behind '" + text + "'", 0, x.count(6));
    }

    private Check() {
    }
}
