/** Counts answers that are not due, and makes texts and long statements for the tests. */
final class Check {
    static final int NONE = MarkedBody.NONE, BAD = MarkedBody.BAD, STATE = MarkedBody.STATE, FULL = MarkedBody.FULL;
    static final int NULL = -1000011, PLACE = -1000012, KIND = -1000013, SIZE = -1000014, STORE = -1000015;
    static final int LEAST = Integer.MIN_VALUE, MOST = Integer.MAX_VALUE;
    private static int wrong = 0;
    private static int seen = 0;
    private static String sentence = "";

    /** The sentence of the document that the next answers are due by. */
    static void sentence(String words) {
        sentence = words;
    }

    static void due(String call, long want, long got) {
        seen++;
        if (want != got) {
            wrong++;
            String by = sentence.isEmpty() ? "" : " [" + sentence + "]";
            System.out.println(call + " answered " + got + ", due is " + want + by);
        }
    }

    static void end() {
        System.out.println(seen + " answers looked at, " + wrong + " wrong");
        if (wrong != 0 || seen == 0) {
            System.exit(1);
        }
    }

    /** Feeds a text in pieces of up to 8 bytes. */
    static void feed(MarkedBody x, String text) {
        for (int at = 0; at < text.length(); at += 8) {
            int n = Math.min(8, text.length() - at);
            x.feed(word(text.substring(at, at + n)), n);
        }
    }

    /** Up to eight bytes, the first of them the highest. */
    static long word(String bytes) {
        long w = 0;
        for (int i = 0; i < bytes.length(); i++) {
            w = w << 8 | bytes.charAt(i) & 255;
        }
        return w;
    }

    static int read(MarkedBody x, String text) {
        feed(x, text);
        return x.read();
    }

    /** A text that is read without a FAULT: so many LINES there are then. */
    static void good(MarkedBody x, String text, int lines) {
        due("read of '" + text + "'", lines, read(x, text));
    }

    static MarkedBody told(String text) {
        MarkedBody x = new MarkedBody();
        int got = read(x, text);
        if (got < 0) {
            due("read of " + text, 0, got);
        }
        return x;
    }

    /** The text has a FAULT at a place, and what is due of it. */
    static void fault(MarkedBody x, String text, int place, int number) {
        due("read of '" + text + "'", -1000100 - place, read(x, text));
        due("fault of '" + text + "'", number, x.fault());
        due("bytes behind '" + text + "'", 0, x.count(6));
    }

    private Check() {
    }
}
