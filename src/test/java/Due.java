import java.nio.charset.StandardCharsets;

/** What the tests share: answers that are due, and texts put on THE TAPE. */
final class Due {
    private static int asked = 0;
    private static int wrong = 0;

    private Due() {
    }

    static void is(String what, long got, long want) {
        asked++;
        if (got != want) {
            wrong++;
            System.out.println(what + ": answered " + got + ", due is " + want);
        }
    }

    static void holds(String what, boolean holds) {
        is(what, holds ? 1 : 0, 1);
    }

    static void feed(SlidingRanks x, String text) {
        for (byte b : text.getBytes(StandardCharsets.ISO_8859_1)) {
            x.feed(b);
        }
    }

    static int text(SlidingRanks x, String text) {
        feed(x, text);
        return x.text();
    }

    static SlidingRanks of(String text) {
        SlidingRanks x = new SlidingRanks();
        int answer = text(x, text);
        holds("the text is taken: " + text, answer >= 0);
        return x;
    }

    static String shown(SlidingRanks x, int t) {
        StringBuilder bytes = new StringBuilder();
        for (int k = 0; k < 99 && x.shown(t, k) >= 0; k++) {
            bytes.append((char) x.shown(t, k));
        }
        return bytes.toString();
    }

    static void isShown(SlidingRanks x, int t, String want) {
        String got = shown(x, t);
        holds("shown of " + t + " is " + want + ", not " + got, got.equals(want));
    }

    /** Everything that a call can ask, in one text: two objects that tell the same are in the same state. */
    static String all(SlidingRanks x) {
        StringBuilder all = new StringBuilder();
        for (int what = 0; what <= 8; what++) {
            all.append(x.rule(what)).append(' ');
        }
        for (int t = 0; t < x.rule(0); t++) {
            all.append(x.reading(t)).append(' ');
        }
        for (int what = 0; what <= 3; what++) {
            all.append(x.count(what)).append(' ');
        }
        return all.append(x.fault()).append(' ').append(x.torn()).toString();
    }

    static void close() {
        System.out.println(wrong == 0 ? asked + " answers are as due" : wrong + " answers are not as due");
        if (wrong != 0) {
            System.exit(1);
        }
    }
}
