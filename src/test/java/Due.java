import java.nio.charset.StandardCharsets;

/** What the tests share: answers that are due, and texts put on THE TAPE. */
final class Due {
    private static int asked = 0;
    private static int wrong = 0;
    private static String spokenOf = "";

    private Due() {
    }

    /** What the next answers are asked for: it is told ahead of each that is not as due. */
    static void speakOf(String what) {
        spokenOf = what.isEmpty() ? "" : what + ": ";
    }

    static int asked() {
        return asked;
    }

    static void is(String what, long got, long want) {
        asked++;
        if (got != want) {
            wrong++;
            System.out.println(spokenOf + what + ": answered " + got + ", due is " + want);
        }
    }

    static void holds(String what, boolean holds) {
        is(what, holds ? 1 : 0, 1);
    }

    static void feed(SlidingRanks x, String text) {
        for (byte b : text.getBytes(StandardCharsets.ISO_8859_1)) {
            x.feed(b);
        }
    }

    static int text(SlidingRanks x, String text) {
        feed(x, text);
        return x.text();
    }

    static SlidingRanks of(String text) {
        SlidingRanks x = new SlidingRanks();
        int answer = text(x, text);
        holds("the text is taken: " + text, answer >= 0);
        return x;
    }

    static String shown(SlidingRanks x, int t) {
        StringBuilder bytes = new StringBuilder();
        int c = x.shown(t, 0);
        for (int k = 1; k < 99 && c >= 0; k++) {
            bytes.append((char) c);
            c = x.shown(t, k);
        }
        return bytes.toString();
    }

    static void isShown(SlidingRanks x, int t, String want) {
        String got = shown(x, t);
        holds("shown of " + t + " is " + want + ", not " + got, got.equals(want));
    }

    /** Everything that a call can ask, in one text: two objects that tell the same are in the same state. */
    static String all(SlidingRanks x) {
        StringBuilder all = new StringBuilder();
        for (int what = 0; what <= 8; what++) {
            all.append(x.rule(what)).append(' ');
        }
        int readings = x.rule(0);
        for (int t = 0; t < readings; t++) {
            all.append(x.reading(t)).append(' ');
        }
        for (int what = 0; what <= 3; what++) {
            all.append(x.count(what)).append(' ');
        }
        return all.append(x.fault()).append(' ').append(x.torn()).toString();
    }

    /**
     * All that can be known of an object, its IMAGES, SHEETS (the first six CELLS) and THE TAPE too; asking for it
     * uses the object up.
     */
    static String everything(SlidingRanks x) {
        StringBuilder all = new StringBuilder(all(x));
        for (int k = 0; k < 2; k++) {
            int answer = x.back(k);
            all.append("; image ").append(answer);
            if (answer >= 0) {
                all.append(": ").append(all(x));
            }
        }
        for (int k = 0; k < 4; k++) {
            all.append("; sheet ").append(cells(x, k));
        }
        all.append("; text ").append(x.text()).append(": ");
        return all.append(all(x)).toString();
    }

    private static String cells(SlidingRanks x, int k) {
        StringBuilder cells = new StringBuilder();
        for (int lane = 0; lane < 3; lane++) {
            x.drop(x.rule(0));
            int came = 1;
            for (int i = 0; i < 6 && came != 0; i++) {
                came = x.read(k, lane, i, 1);
                cells.append(came).append(' ').append(x.torn()).append(' ');
            }
            int readings = x.rule(0);
            for (int t = 0; t < readings; t++) {
                cells.append(x.reading(t)).append(' ');
            }
        }
        return cells.toString();
    }

    static void close() {
        System.out.println(wrong == 0 ? asked + " answers are as due" : wrong + " answers are not as due");
        if (wrong != 0) {
            System.exit(1);
        }
    }
}
