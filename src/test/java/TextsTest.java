/** Every text of a few TOKENS, with a blank behind each, against the Model: what is told, or the FAULT and its place. */
public final class TextsTest {
    private static final String[] TOKENS = {"width", "need", "part", "rule", "form", "put", "miss", "low", "sign", "-",
        ".", ";", "0", "2", "25", "101", "12345", "$", "x"};
    private static final String[] STARTS = {"", "put ", "width 3;put -1."};
    private static final int MOST_TOKENS = 4;

    private static int texts = 0;

    private TextsTest() {
    }

    public static void main(String[] args) {
        for (String start : STARTS) {
            goOn(start, 0);
        }
        System.out.println(texts + " texts are compared");
        Due.close();
    }

    private static void goOn(String text, int tokens) {
        compare(text);
        if (tokens < MOST_TOKENS) {
            for (String token : TOKENS) {
                goOn(text + token + " ", tokens + 1);
            }
        }
    }

    private static void compare(String text) {
        texts++;
        SlidingRanks x = new SlidingRanks();
        Model model = new Model();
        for (int i = 0; i < text.length(); i++) {
            x.feed(text.charAt(i));
            model.feed(text.charAt(i));
        }
        int answer = model.text();
        Due.is("text " + text, x.text(), answer);
        Due.is("fault of " + text, x.fault(), model.fault());
        for (int what = 0; what < 8 && answer >= 0; what++) {
            Due.is("rule(" + what + ") by " + text, x.rule(what), model.rule(what));
        }
        for (int t = 0; t < answer; t++) {
            Due.is("reading(" + t + ") by " + text, x.reading(t), model.reading(t));
        }
    }
}
