import java.util.ArrayList;
import java.util.List;
import java.util.Random;

/** Long random runs of calls, the class and the Model side by side, with an answer compared at each call. */
public final class ModelTest {
    private static final int RUNS = 6000;
    /** The document tells nothing of an object after so many calls. */
    private static final int MOST_CALLS = 512;
    private static final int MOST_TOLD = 5;
    private static final String[] WORDS = {"width", "need", "part", "rule", "form", "put", "miss", "low", "high", "near",
        "mean", "line", "plain", "cents", "sign", "-", ".", ";", " ", "0", "1", "7", "24", "25", "100", "101", "9999",
        "10000", "$", "x", "putt", "A"};

    private final Random random;
    private SlidingRanks x = new SlidingRanks();
    private Model model = new Model();
    private final List<String> calls = new ArrayList<>();
    private int made = 0;
    private boolean same = true;

    private ModelTest(long seed) {
        random = new Random(seed);
    }

    public static void main(String[] args) {
        int wrong = 0;
        for (int run = 0; run < RUNS && wrong < MOST_TOLD; run++) {
            ModelTest test = new ModelTest(run);
            if (!test.isRunSame()) {
                wrong++;
                System.out.println("run " + run + ": " + String.join("; ", test.calls));
            }
        }
        System.out.println(wrong == 0 ? RUNS + " runs are as the model's" : wrong + " runs are not as the model's");
        if (wrong != 0) {
            System.exit(1);
        }
    }

    private boolean isRunSame() {
        boolean small = random.nextBoolean();
        // A pick makes two calls at most, but for a text, which looks for room itself.
        while (made + 2 <= MOST_CALLS && same) {
            int pick = random.nextInt(100);
            if (pick < 8) {
                tellText();
            } else if (pick < 45) {
                change(small);
            } else if (pick < 60) {
                useSheet();
            } else {
                ask();
            }
        }
        return same;
    }

    private void compare(String call, int got, int want) {
        made++;
        calls.add(call + " " + got);
        if (got != want) {
            same = false;
            calls.add("due is " + want);
        }
    }

    private boolean rarely() {
        return random.nextInt(12) == 0;
    }

    /** Mostly within the bounds, at times just outside them, at times anything. */
    private int around(int least, int greatest) {
        if (!rarely()) {
            return least + random.nextInt(greatest - least + 1);
        }
        int[] wild = {least - 1, greatest + 1, -1, 0, Integer.MIN_VALUE, Integer.MAX_VALUE, random.nextInt()};
        return wild[random.nextInt(wild.length)];
    }

    private int hundredths(boolean small) {
        int span = small ? 6 : random.nextBoolean() ? 2000 : 999999;
        return around(-span, span);
    }

    private int place() {
        return around(0, Math.max(0, model.rule(0) - 1));
    }

    private void tellText() {
        StringBuilder told = new StringBuilder();
        int lines = random.nextInt(6);
        for (int i = 0; i < lines; i++) {
            told.append(line());
        }
        if (random.nextInt(3) == 0 && told.length() > 0) {
            spoil(told);
        }
        if (made + told.length() + 3 > MOST_CALLS) {
            return;
        }
        for (int i = 0; i < told.length() && same; i++) {
            int c = told.charAt(i);
            compare("feed(" + c + ")", x.feed(c), model.feed(c));
        }
        if (random.nextInt(4) == 0) {
            int n = around(0, model.count(1));
            compare("end(" + n + ")", x.end(n), model.end(n));
        }
        if (rarely()) {
            return;
        }
        compare("text()", x.text(), model.text());
        compare("fault()", x.fault(), model.fault());
    }

    private String line() {
        switch (random.nextInt(8)) {
            case 0:
                return "width " + around(1, 24) + ";";
            case 1:
                return "need " + around(1, 4) + ";";
            case 2:
                int q = around(1, 100);
                return "part " + around(0, Math.max(1, Math.min(q, 100))) + " " + q + ";";
            case 3:
                return "rule " + WORDS[7 + random.nextInt(5)] + ";";
            case 4:
                return "form " + WORDS[12 + random.nextInt(3)] + ";";
            default:
                StringBuilder put = new StringBuilder("put");
                int readings = 1 + (rarely() ? 90 + random.nextInt(12) : random.nextInt(20));
                for (int i = 0; i < readings; i++) {
                    put.append(' ').append(readingText(readings > 30));
                }
                return put.append(";").toString();
        }
    }

    private String readingText(boolean brief) {
        if (brief) {
            return String.valueOf(random.nextInt(10));
        }
        if (random.nextInt(6) == 0) {
            return "miss";
        }
        String sign = random.nextInt(3) == 0 ? "-" : "";
        String whole = String.valueOf(random.nextInt(random.nextBoolean() ? 10 : 10000));
        int figures = random.nextInt(3) + (rarely() ? 1 : 0);
        return sign + whole + (figures == 0 ? "" : "." + String.valueOf(1000 + random.nextInt(1000)).substring(4 - figures));
    }

    private void spoil(StringBuilder told) {
        int place = random.nextInt(told.length());
        switch (random.nextInt(4)) {
            case 0:
                told.deleteCharAt(place);
                break;
            case 1:
                told.setLength(place);
                break;
            case 2:
                told.setCharAt(place, (char) random.nextInt(128));
                break;
            default:
                told.insert(place, WORDS[random.nextInt(WORDS.length)]);
                break;
        }
    }

    private void change(boolean small) {
        int t = place();
        int v = hundredths(small);
        int kind = random.nextInt(15);
        switch (kind) {
            case 0, 1, 2 -> compare("add(" + v + ")", x.add(v), model.add(v));
            case 3 -> compare("miss()", x.miss(), model.miss());
            case 4 -> compare("set(" + t + ", " + v + ")", x.set(t, v), model.set(t, v));
            case 5 -> compare("lose(" + t + ")", x.lose(t), model.lose(t));
            case 6 -> {
                int n = rarely() ? around(0, 96) : around(0, 3);
                compare("drop(" + n + ")", x.drop(n), model.drop(n));
            }
            case 7 -> {
                int w = around(1, 24);
                compare("width(" + w + ")", x.width(w), model.width(w));
            }
            case 8 -> {
                int n = around(1, rarely() ? 24 : 4);
                compare("need(" + n + ")", x.need(n), model.need(n));
            }
            case 9 -> {
                int q = around(1, random.nextBoolean() ? 6 : 100);
                int p = around(0, Math.max(1, Math.min(100, q)));
                compare("part(" + p + ", " + q + ")", x.part(p, q), model.part(p, q));
            }
            case 10 -> {
                int r = around(0, 4);
                compare("choose(" + r + ")", x.choose(r), model.choose(r));
            }
            case 11 -> {
                int f = around(0, 2);
                compare("form(" + f + ")", x.form(f), model.form(f));
            }
            case 12 -> {
                int seed = random.nextInt();
                int n = around(1, 48);
                compare("drift(" + seed + ", " + n + ")", x.drift(seed, n), model.drift(seed, n));
            }
            case 13 -> {
                int k = around(0, 1);
                compare("keep(" + k + ")", x.keep(k), model.keep(k));
            }
            default -> {
                int k = around(0, 1);
                compare("back(" + k + ")", x.back(k), model.back(k));
            }
        }
    }

    private void useSheet() {
        int k = around(0, 3);
        int lane = rarely() ? around(0, 2) : Math.floorMod(k, 3);
        int n = around(0, random.nextBoolean() ? 6 : 40);
        int i = around(0, 7);
        int v = rarely() ? random.nextInt() : hundredths(false);
        switch (random.nextInt(5)) {
            case 0 -> compare("sheet(" + k + ", " + lane + ", " + n + ")", x.sheet(k, lane, n), model.sheet(k, lane, n));
            case 1, 2 -> compare("lay(" + k + ", " + i + ", " + v + ")", x.lay(k, i, v), model.lay(k, i, v));
            default -> {
                String call = "read(" + k + ", " + lane + ", " + i + ", " + n + ")";
                compare(call, x.read(k, lane, i, n), model.read(k, lane, i, n));
                compare("torn()", x.torn(), model.torn());
            }
        }
    }

    private void ask() {
        int t = place();
        int v = rarely() || model.rule(8) == 0 ? hundredths(false) : model.reading(place());
        int what = around(0, 3);
        switch (random.nextInt(13)) {
            case 0 -> {
                int of = around(0, 8);
                compare("rule(" + of + ")", x.rule(of), model.rule(of));
            }
            case 1 -> compare("reading(" + t + ")", x.reading(t), model.reading(t));
            case 2 -> compare("row(" + t + ", " + what + ")", x.row(t, what), model.row(t, what));
            case 3 -> {
                int i = around(0, 23);
                compare("item(" + t + ", " + i + ")", x.item(t, i), model.item(t, i));
            }
            case 4, 5 -> compare("result(" + t + ", " + what + ")", x.result(t, what), model.result(t, what));
            case 6 -> compare("rank(" + t + ", " + v + ", " + what + ")", x.rank(t, v, what), model.rank(t, v, what));
            case 7 -> {
                int k = around(0, 8);
                compare("shown(" + t + ", " + k + ")", x.shown(t, k), model.shown(t, k));
            }
            case 8 -> compare("middle(" + t + ", " + what + ")", x.middle(t, what), model.middle(t, what));
            case 9 -> {
                int k = around(1, 20);
                compare("far(" + t + ", " + k + ")", x.far(t, k), model.far(t, k));
                compare("fars(" + k + ")", x.fars(k), model.fars(k));
            }
            case 10 -> compare("above(" + v + ", " + what + ")", x.above(v, what), model.above(v, what));
            case 11 -> compare("most(" + what + ")", x.most(what), model.most(what));
            default -> compare("count(" + what + ")", x.count(what), model.count(what));
        }
    }
}
