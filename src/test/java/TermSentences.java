import java.util.LinkedHashMap;
import java.util.Map;
import java.util.function.ToIntFunction;

/** The sentences of 'Terms', but for those of THE TAPE and its text (see TextSentences). */
final class TermSentences {
    private static final int BAD = -1, STATE = -2, FULL = -3, NONE = -4;
    private static final int NOTHING = 100000000;
    private static final int LEAST = Integer.MIN_VALUE, GREATEST = Integer.MAX_VALUE;

    private TermSentences() {
    }

    static void run() {
        Sentences.under("Terms");
        answers();
        refusals();
        bounds();
        choices();
        windows();
        places();
        rules();
        fractions();
        words();
        middles();
        sheets();
        constants();
    }

    /** A new object with the readings, NOTHING for a missing one. */
    static SlidingRanks with(int... readings) {
        SlidingRanks x = new SlidingRanks();
        for (int v : readings) {
            if (v == NOTHING) {
                x.miss();
            } else {
                x.add(v);
            }
        }
        return x;
    }

    /** 96 readings: 1 to 96. */
    static SlidingRanks full() {
        SlidingRanks x = new SlidingRanks();
        for (int v = 1; v <= 96; v++) {
            x.add(v);
        }
        return x;
    }

    private static void answers() {
        Sentences.says("Answers: BAD -1 (a number is not as told, there is no such READING, IMAGE, SHEET)", () -> {
            Due.is("BAD", SlidingRanks.BAD, -1);
            SlidingRanks x = with(5);
            Due.is("a number", x.feed(128), BAD);
            Due.is("READING 1 of one", x.row(1, 0), BAD);
            Due.is("READING -1", x.set(-1, 0), BAD);
            Due.is("IMAGE 2", x.keep(2), BAD);
            Due.is("IMAGE -1", x.back(-1), BAD);
            Due.is("SHEET 4", x.sheet(4, 0, 1), BAD);
            Due.is("SHEET -1", x.lay(-1, 0, 0), BAD);
        });
        Sentences.says("STATE -2 (as told)", () -> {
            Due.is("STATE", SlidingRanks.STATE, -2);
            Due.is("back(1) without IMAGE 1", with(5).back(1), STATE);
        });
        Sentences.says("FULL -3", () -> {
            Due.is("FULL", SlidingRanks.FULL, -3);
            Due.is("the 97th", full().miss(), FULL);
        });
        Sentences.says("NONE -4 (there is none)", () -> {
            Due.is("NONE", SlidingRanks.NONE, -4);
            Due.is("no RESULTS", new SlidingRanks().most(0), NONE);
        });
        Sentences.says("the first that fits", TermSentences::firstThatFits);
    }

    private static void firstThatFits() {
        SlidingRanks x = full();
        Due.is("add: BAD ahead of FULL", x.add(1000000), BAD);
        Due.is("drift: BAD ahead of there being no room", x.drift(1, 49), BAD);
        Due.is("back: BAD ahead of STATE", x.back(2), BAD);
        Due.is("row: BAD (what) ahead of NONE", with(NOTHING).row(0, 3), BAD);
        Due.is("row: BAD (t) ahead of NONE", with(NOTHING).row(1, 1), BAD);
        Due.is("shown: BAD (t) ahead of NONE", with(5).shown(1, 99), BAD);
        Due.is("above: BAD ahead of NONE", new SlidingRanks().above(0, 4), BAD);
        Due.is("most: BAD ahead of NONE", new SlidingRanks().most(2), BAD);
        Due.is("count: BAD ahead of NONE", new SlidingRanks().count(4), BAD);
        Due.is("sheet: BAD (k) ahead of SIZE", x.sheet(4, 0, -1), BAD);
        Due.is("sheet: BAD (lane) ahead of SIZE", x.sheet(0, 3, -1), BAD);
        Due.is("lay: BAD (k) ahead of NULL", x.lay(4, 0, 0), BAD);
        Due.is("lay: NULL ahead of INDEX", x.lay(0, -1, 0), -11);
        Due.is("read: BAD (lane) ahead of NULL", x.read(0, 3, 0, 1), BAD);
        Due.is("read: BAD (n) ahead of NULL", x.read(0, 0, 0, 41), BAD);
        x = new SlidingRanks();
        for (int n = 0; n < 320; n++) {
            x.feed(' ');
        }
        Due.is("feed: BAD ahead of FULL", x.feed(128), BAD);
        Due.is("feed: BAD below 0 ahead of FULL", x.feed(-1), BAD);
    }

    private static void refusals() {
        Sentences.says("what is refused changes nothing (but THE TAPE, as told).", () -> {
            String before = Due.everything(rich());
            refusedCalls().forEach((name, call) -> {
                SlidingRanks x = rich();
                int answer = call.applyAsInt(x);
                Due.holds(name + " is refused: " + answer, answer < 0);
                String after = Due.everything(x);
                Due.holds(name + " changes nothing: was " + before + ", is " + after, after.equals(before));
            });
            refusedWhereFull();
            SlidingRanks x = rich();
            String all = Due.all(x);
            x.end(3);
            Due.is("a refused text", x.text(), -13);
            Due.is("the tape is empty", x.count(1), 0);
            x.feed('a');
            Due.feed(x, "bcdef");
            String now = Due.all(x);
            Due.holds("but the tape and its fault, nothing: was " + all + ", is " + now,
                    now.equals(all.replaceAll("\\d+ (\\d+)$", "2 $1")));
        });
    }

    /** Something of everything: readings, an image, sheets, bytes on the tape, a fault, a tear. */
    private static SlidingRanks rich() {
        SlidingRanks x = new SlidingRanks();
        Due.text(x, "width 99;");
        Due.text(x, "width 3;need 2;part 3 8;rule near;form cents;put 1.5 -2 miss 7.25;");
        Due.text(x, "$");
        x.keep(1);
        x.add(42);
        x.sheet(0, 2, 3);
        x.lay(0, 0, 11);
        x.lay(0, 1, 1000000);
        x.lay(0, 2, 13);
        x.sheet(1, 0, 2);
        x.lay(1, 1, -7);
        x.read(1, 2, 0, 1);
        Due.feed(x, "put 7;");
        return x;
    }

    private static Map<String, ToIntFunction<SlidingRanks>> refusedCalls() {
        Map<String, ToIntFunction<SlidingRanks>> calls = new LinkedHashMap<>();
        calls.put("feed(-1)", x -> x.feed(-1));
        calls.put("feed(128)", x -> x.feed(128));
        calls.put("end(-1)", x -> x.end(-1));
        calls.put("end(7)", x -> x.end(7));
        calls.put("add(1000000)", x -> x.add(1000000));
        calls.put("add(-1000000)", x -> x.add(-1000000));
        calls.put("set(-1, 0)", x -> x.set(-1, 0));
        calls.put("set(5, 0)", x -> x.set(5, 0));
        calls.put("set(4, 1000000)", x -> x.set(4, 1000000));
        calls.put("set(4, -1000000)", x -> x.set(4, -1000000));
        calls.put("lose(-1)", x -> x.lose(-1));
        calls.put("lose(5)", x -> x.lose(5));
        calls.put("drop(-1)", x -> x.drop(-1));
        calls.put("drop(6)", x -> x.drop(6));
        calls.put("width(0)", x -> x.width(0));
        calls.put("width(25)", x -> x.width(25));
        calls.put("need(0)", x -> x.need(0));
        calls.put("need(25)", x -> x.need(25));
        calls.put("part(0, 0)", x -> x.part(0, 0));
        calls.put("part(-1, 2)", x -> x.part(-1, 2));
        calls.put("part(3, 2)", x -> x.part(3, 2));
        calls.put("part(1, 101)", x -> x.part(1, 101));
        calls.put("choose(-1)", x -> x.choose(-1));
        calls.put("choose(5)", x -> x.choose(5));
        calls.put("form(-1)", x -> x.form(-1));
        calls.put("form(3)", x -> x.form(3));
        calls.put("drift(1, 0)", x -> x.drift(1, 0));
        calls.put("drift(1, 49)", x -> x.drift(1, 49));
        calls.put("keep(-1)", x -> x.keep(-1));
        calls.put("keep(2)", x -> x.keep(2));
        calls.put("back(-1)", x -> x.back(-1));
        calls.put("back(2)", x -> x.back(2));
        calls.put("back(0)", x -> x.back(0));
        calls.put("sheet(-1, 0, 1)", x -> x.sheet(-1, 0, 1));
        calls.put("sheet(4, 0, 1)", x -> x.sheet(4, 0, 1));
        calls.put("sheet(0, -1, 1)", x -> x.sheet(0, -1, 1));
        calls.put("sheet(0, 3, 1)", x -> x.sheet(0, 3, 1));
        calls.put("sheet(0, 2, 41)", x -> x.sheet(0, 2, 41));
        calls.put("sheet(0, 2, -1)", x -> x.sheet(0, 2, -1));
        calls.put("sheet(2, 0, -1)", x -> x.sheet(2, 0, -1));
        calls.put("lay(-1, 0, 9)", x -> x.lay(-1, 0, 9));
        calls.put("lay(4, 0, 9)", x -> x.lay(4, 0, 9));
        calls.put("lay(2, 0, 9)", x -> x.lay(2, 0, 9));
        calls.put("lay(0, -1, 9)", x -> x.lay(0, -1, 9));
        calls.put("lay(0, 3, 9)", x -> x.lay(0, 3, 9));
        calls.put("read(-1, 2, 0, 1)", x -> x.read(-1, 2, 0, 1));
        calls.put("read(4, 2, 0, 1)", x -> x.read(4, 2, 0, 1));
        calls.put("read(0, -1, 0, 1)", x -> x.read(0, -1, 0, 1));
        calls.put("read(0, 3, 0, 1)", x -> x.read(0, 3, 0, 1));
        calls.put("read(0, 2, 0, -1)", x -> x.read(0, 2, 0, -1));
        calls.put("read(0, 2, 0, 41)", x -> x.read(0, 2, 0, 41));
        calls.put("read(0, 2, 0, 2)", x -> x.read(0, 2, 0, 2));
        calls.put("read(0, 2, 1, 1)", x -> x.read(0, 2, 1, 1));
        return calls;
    }

    private static void refusedWhereFull() {
        SlidingRanks x = full();
        x.sheet(0, 2, 3);
        String before = Due.all(x);
        Due.is("add(7)", x.add(7), FULL);
        Due.is("miss()", x.miss(), FULL);
        Due.is("read(0, 2, 0, 3)", x.read(0, 2, 0, 3), -20);
        String after = Due.all(x);
        Due.holds("what is full changes nothing: was " + before + ", is " + after, after.equals(before));
        x = new SlidingRanks();
        Due.feed(x, " ".repeat(314) + "put 7;");
        Due.is("feed(';')", x.feed(';'), FULL);
        Due.is("feed(-1)", x.feed(-1), BAD);
        Due.is("the tape is as it was", x.count(1), 320);
        Due.is("and tells the same", x.text(), 1);
    }

    private static void bounds() {
        Sentences.says("READINGS 0 on (96 at most), by order,", () -> {
            SlidingRanks x = full();
            for (int t = 0; t < 96; t++) {
                Due.is("READING " + t, x.reading(t), t + 1);
            }
            Due.is("there is no READING 96", x.reading(96), NOTHING);
            Due.is("nor READING -1", x.reading(-1), NOTHING);
            x.sheet(0, 2, 2);
            Due.is("not one more by add()", x.add(0), FULL);
            Due.is("by miss()", x.miss(), FULL);
            Due.is("by drift()", x.drift(1, 1), 0);
            Due.is("by read()", x.read(0, 2, 0, 1), -20);
            Due.is("96 there are", x.rule(0), 96);
            x.drop(1);
            Due.is("a 96th again", x.add(7), 96);
            Due.is("by order, the last", x.reading(95), 7);
            Due.is("by order, the first", x.reading(0), 2);
        });
        Sentences.says("each missing, or a number of hundredths (-999999 to 999999).", () -> {
            int[] taken = {-999999, -999998, -1, 0, 1, 999998, 999999};
            for (int v : taken) {
                SlidingRanks x = with(NOTHING);
                Due.is("add(" + v + ")", x.add(v), 2);
                Due.is("READING by add", x.reading(1), v);
                Due.is("set(0, " + v + ")", x.set(0, v), 1);
                Due.is("READING by set", x.reading(0), v);
            }
            int[] refused = {LEAST, -NOTHING, -1000000, 1000000, NOTHING, GREATEST};
            for (int v : refused) {
                SlidingRanks x = with(NOTHING);
                Due.is("add(" + v + ")", x.add(v), BAD);
                Due.is("set(0, " + v + ")", x.set(0, v), BAD);
                Due.is("it is missing still", x.rule(1), 1);
                Due.is("and there is no other", x.rule(0), 1);
            }
        });
    }

    /** Calls that change one setting: which numbers are taken, and that the setting is as at first else. */
    private static void setting(int least, int greatest, int first, int what, IntSetting call) {
        int[] near = {LEAST, -100, -1, 0, 1, 2, 3, 4, 5, 6, 23, 24, 25, 26, 100, 101, GREATEST};
        for (int v : near) {
            SlidingRanks x = new SlidingRanks();
            Due.is("at first", x.rule(what), first);
            boolean fits = v >= least && v <= greatest;
            Due.is("to " + v, call.change(x, v), fits ? first : BAD);
            Due.is("after " + v, x.rule(what), fits ? v : first);
        }
    }

    private interface IntSetting {
        int change(SlidingRanks x, int v);
    }

    private static void choices() {
        Sentences.says("WIDTH (1 to 24; 5 at first)", () -> setting(1, 24, 5, 2, SlidingRanks::width));
        Sentences.says("NEED (1 to 24; 1 at first)", () -> setting(1, 24, 1, 3, SlidingRanks::need));
        Sentences.says("PART p of q (q 1 to 100, p 0 to q; 1 of 2 at first)", () -> {
            int[] near = {LEAST, -1, 0, 1, 2, 50, 99, 100, 101, GREATEST};
            for (int p : near) {
                for (int q : near) {
                    SlidingRanks x = new SlidingRanks();
                    boolean fits = q >= 1 && q <= 100 && p >= 0 && p <= q;
                    Due.is("part(" + p + ", " + q + ")", x.part(p, q), fits ? 1002 : BAD);
                    Due.is("p after part(" + p + ", " + q + ")", x.rule(4), fits ? p : 1);
                    Due.is("q after part(" + p + ", " + q + ")", x.rule(5), fits ? q : 2);
                }
            }
        });
        Sentences.says("RULE (0 low, 1 high, 2 near, 3 mean, 4 line; 0 at first)", () -> {
            setting(0, 4, 0, 6, SlidingRanks::choose);
            // By a part of three quarters between 0 and 0.4 each rule has an answer of its own, but that near is high.
            int[] above = {0, 40, 40, 40, 120};
            int[] below = {1, 1, 1, 2, 4};
            SlidingRanks x = with(0, 40);
            x.part(3, 4);
            for (int r = 0; r <= 4; r++) {
                x.choose(r);
                Due.is("ABOVE by RULE " + r, x.result(1, 0), above[r]);
                Due.is("BELOW by RULE " + r, x.result(1, 1), below[r]);
            }
            x.part(1, 4);
            x.choose(1);
            Due.is("a quarter, high", x.result(1, 0), 40);
            x.choose(2);
            Due.is("a quarter, near", x.result(1, 0), 0);
        });
        Sentences.says("FORM (0 plain, 1 cents, 2 sign; 0 at first).", () -> {
            setting(0, 2, 0, 7, SlidingRanks::form);
            SlidingRanks x = with(250);
            Due.isShown(x, 0, "2.5");
            x.form(1);
            Due.isShown(x, 0, "2.50");
            x.form(2);
            Due.isShown(x, 0, "+2.5");
            x.form(0);
            Due.isShown(x, 0, "2.5");
        });
    }

    private static void windows() {
        Sentences.says("WINDOW of a READING t: READINGS from t less WIDTH and 1 (from 0) to t.", () -> {
            for (int w = 1; w <= 24; w++) {
                SlidingRanks x = new SlidingRanks();
                x.width(w);
                for (int v = 0; v < 30; v++) {
                    x.add(v);
                }
                for (int t = 0; t < 30; t++) {
                    int first = Math.max(0, t - w + 1);
                    String what = "WIDTH " + w + ", READING " + t;
                    Due.is(what + ": how many", x.row(t, 0), t - first + 1);
                    Due.is(what + ": the first", x.item(t, 0), first);
                    Due.is(what + ": the last", x.item(t, t - first), t);
                }
            }
            SlidingRanks x = full();
            x.width(24);
            Due.is("of the last READING: how many", x.row(95, 0), 24);
            Due.is("of the last READING: the first", x.item(95, 0), 73);
        });
        Sentences.says("ROW of t: what is not missing in its WINDOW, the least first: n of them, x 0 on.", () -> {
            SlidingRanks x = with(3, NOTHING, -999999, 999999, 3, NOTHING, 0);
            x.width(7);
            int[] row = {-999999, 0, 3, 3, 999999, NOTHING, NOTHING};
            Due.is("n", x.row(6, 0), 5);
            for (int i = 0; i < row.length; i++) {
                Due.is("x " + i, x.item(6, i), row[i]);
            }
            Due.is("x -1", x.item(6, -1), NOTHING);
            x = with(NOTHING, NOTHING);
            Due.is("n of missing ones alone", x.row(1, 0), 0);
            Due.is("x 0 of missing ones alone", x.item(1, 0), NOTHING);
            x = new SlidingRanks();
            x.width(24);
            for (int v = 24; v >= 1; v--) {
                x.add(v);
            }
            for (int i = 0; i < 24; i++) {
                Due.is("from the greatest down, x " + i, x.item(23, i), i + 1);
            }
        });
    }

    private static void places() {
        Sentences.says("RESULT of t: none, if n is less than NEED (or 0);", () -> {
            SlidingRanks x = with(1, 2, 3);
            for (int need = 1; need <= 24; need++) {
                x.need(need);
                Due.is("n 3, NEED " + need, x.result(2, 0), need <= 3 ? 2 : NOTHING);
                Due.is("n 1, NEED " + need, x.result(0, 0), need <= 1 ? 1 : NOTHING);
            }
            x = with(NOTHING);
            Due.is("n 0, NEED 1", x.result(0, 0), NOTHING);
            Due.is("n 0, its PLACE", x.row(0, 1), NONE);
            x = new SlidingRanks();
            x.width(24);
            x.need(24);
            for (int v = 1; v <= 24; v++) {
                x.add(v);
            }
            Due.is("n 23, NEED 24", x.result(22, 0), NOTHING);
            Due.is("n 24, NEED 24", x.result(23, 0), 12);
        });
        Sentences.says("else by PLACE h: n less 1 times p, by q (a whole part k, a rest r of q):", () -> {
            int[][] parts = {{0, 1}, {1, 1}, {0, 100}, {100, 100}, {1, 100}, {99, 100}, {1, 2}, {2, 3}, {3, 7}, {7, 24}};
            for (int[] part : parts) {
                SlidingRanks x = new SlidingRanks();
                x.width(24);
                x.part(part[0], part[1]);
                for (int n = 1; n <= 24; n++) {
                    x.add(n);
                    String what = "n " + n + ", " + part[0] + " of " + part[1];
                    Due.is(what + ": k", x.row(n - 1, 1), (n - 1) * part[0] / part[1]);
                    Due.is(what + ": r", x.row(n - 1, 2), (n - 1) * part[0] % part[1]);
                }
            }
            SlidingRanks x = with(5, 6, 7);
            x.part(100, 100);
            Due.is("all of it: k", x.row(2, 1), 2);
            Due.is("all of it: r", x.row(2, 2), 0);
            Due.is("one alone: k", x.row(0, 1), 0);
            Due.is("one alone: r", x.row(0, 2), 0);
        });
    }

    /** ABOVE of the last of the readings, in a window of them all. */
    private static int above(int r, int p, int q, int... readings) {
        SlidingRanks x = with(readings);
        x.width(24);
        x.part(p, q);
        x.choose(r);
        return x.result(readings.length - 1, 0);
    }

    private static void rules() {
        Sentences.says("low: x k.", () -> {
            Due.is("r 0", above(0, 1, 2, 10, 20, 40), 20);
            Due.is("r above 0", above(0, 99, 100, 10, 20), 10);
            Due.is("one alone", above(0, 1, 1, 10), 10);
            Due.is("the last", above(0, 1, 1, 10, 20), 20);
            Due.is("the first", above(0, 0, 1, 10, 20), 10);
        });
        Sentences.says("high: x k, if r is 0, else x k and 1.", () -> {
            Due.is("r 0", above(1, 1, 2, 10, 20, 40), 20);
            Due.is("r 1 of 100", above(1, 1, 100, 10, 20), 20);
            Due.is("r 0 at the last", above(1, 1, 1, 10, 20), 20);
            Due.is("r 0 at the first", above(1, 0, 1, 10, 20), 10);
            Due.is("one alone", above(1, 1, 2, 10), 10);
        });
        Sentences.says("near: x k, if twice r is less than q, or is q and k is even; else x k and 1.", () -> {
            Due.is("twice r is less than q", above(2, 49, 100, 10, 20), 10);
            Due.is("twice r is q, k 0", above(2, 50, 100, 10, 20), 10);
            Due.is("twice r is above q", above(2, 51, 100, 10, 20), 20);
            Due.is("twice r is q, k 1", above(2, 1, 2, 10, 20, 30, 40), 30);
            Due.is("twice r is q, k 2", above(2, 1, 2, 10, 20, 30, 40, 50, 60), 30);
            Due.is("twice r is q, k 3", above(2, 1, 2, 10, 20, 30, 40, 50, 60, 70, 80), 50);
            Due.is("odd q, twice r is q less 1, k 1", above(2, 11, 15, 10, 20, 30), 20);
            Due.is("odd q, twice r is q and 1, k 0", above(2, 8, 15, 10, 20), 20);
            Due.is("odd q, twice r is q less 1, k 0", above(2, 7, 15, 10, 20), 10);
            Due.is("r 0, k 1", above(2, 1, 2, 10, 20, 30), 20);
            Due.is("r 0, the last", above(2, 1, 1, 10, 20), 20);
            Due.is("one alone", above(2, 1, 2, 10), 10);
        });
        Sentences.says("mean: x k and x (k and 1, if r is above 0), summed, by 2.", () -> {
            Due.is("r 0: twice the same", above(3, 1, 2, 10, 20, 40), 40);
            Due.is("r 1 of 100", above(3, 1, 100, 10, 21), 31);
            Due.is("r 99 of 100", above(3, 99, 100, 10, 21), 31);
            Due.is("r 0 at the last", above(3, 1, 1, 10, 20), 40);
            Due.is("one alone", above(3, 1, 2, 10), 20);
            Due.is("the least", above(3, 1, 2, -999999, -999999), -1999998);
            Due.is("the greatest", above(3, 1, 2, 999999, 999999), 1999998);
            Due.is("the least and the greatest", above(3, 1, 2, -999999, 999999), 0);
        });
        Sentences.says("line: x k times q less r, and x k and 1 times r (r above 0), by q.", () -> {
            Due.is("r 0", above(4, 1, 2, 10, 20, 40), 40);
            Due.is("r 1 of 100", above(4, 1, 100, 10, 21), 10 * 99 + 21);
            Due.is("r 99 of 100", above(4, 99, 100, 10, 21), 10 + 21 * 99);
            Due.is("r 0 at the last", above(4, 100, 100, 10, 20), 2000);
            Due.is("one alone", above(4, 1, 2, 10), 20);
            Due.is("the least", above(4, 50, 100, -999999, -999999), -99999900);
            Due.is("the greatest", above(4, 50, 100, 999999, 999999), 99999900);
            Due.is("the greatest, r 0", above(4, 100, 100, 999999), 99999900);
            Due.is("the least and the greatest", above(4, 1, 100, -999999, 999999), -97999902);
        });
    }

    /** ROUND of the second of two readings by a rule and a part. */
    private static int round(int r, int p, int q, int a, int b) {
        SlidingRanks x = with(a, b);
        x.part(p, q);
        x.choose(r);
        return x.result(1, 2);
    }

    private static void fractions() {
        Sentences.says("It is a fraction: ABOVE by BELOW (BELOW 1, 2 or q, not shortened).", () -> {
            int[] below = {1, 1, 1, 2, 100};
            int[] above = {40, 40, 40, 80, 4000};
            for (int r = 0; r <= 4; r++) {
                SlidingRanks x = with(40, 40);
                x.part(50, 100);
                x.choose(r);
                Due.is("BELOW by RULE " + r, x.result(1, 1), below[r]);
                Due.is("ABOVE by RULE " + r, x.result(1, 0), above[r]);
            }
            SlidingRanks x = with(0);
            x.choose(4);
            x.part(0, 1);
            Due.is("BELOW, q 1", x.result(0, 1), 1);
            x.part(0, 100);
            Due.is("BELOW of 0, q 100", x.result(0, 1), 100);
            Due.is("ABOVE of 0", x.result(0, 0), 0);
        });
        Sentences.says("ROUND of it: to hundredths, the nearest, of two as near that farther from 0.", () -> {
            Due.is("a half above 0", round(3, 1, 2, 0, 1), 1);
            Due.is("a half below 0", round(3, 1, 2, 0, -1), -1);
            Due.is("one and a half", round(3, 1, 2, 1, 2), 2);
            Due.is("one and a half below 0", round(3, 1, 2, -1, -2), -2);
            Due.is("0 of one to each side", round(3, 1, 2, -1, 1), 0);
            Due.is("49 of 100", round(4, 49, 100, 0, 1), 0);
            Due.is("50 of 100", round(4, 50, 100, 0, 1), 1);
            Due.is("51 of 100", round(4, 51, 100, 0, 1), 1);
            Due.is("49 of 100 below 0", round(4, 51, 100, -1, 0), 0);
            Due.is("50 of 100 below 0", round(4, 50, 100, -1, 0), -1);
            Due.is("51 of 100 below 0", round(4, 49, 100, -1, 0), -1);
            Due.is("odd q: 1 of 3", round(4, 1, 3, 0, 1), 0);
            Due.is("odd q: 2 of 3", round(4, 2, 3, 0, 1), 1);
            Due.is("odd q: 49 of 99", round(4, 49, 99, 0, 1), 0);
            Due.is("odd q: 50 of 99", round(4, 50, 99, 0, 1), 1);
            Due.is("odd q: 49 of 99 below 0", round(4, 50, 99, -1, 0), 0);
            Due.is("odd q: 50 of 99 below 0", round(4, 49, 99, -1, 0), -1);
            Due.is("a whole one", round(4, 100, 100, 0, 1), 1);
            Due.is("the greatest", round(4, 99, 100, 999999, 999999), 999999);
            Due.is("the least", round(4, 99, 100, -999999, -999999), -999999);
            Due.is("just below the greatest", round(3, 1, 2, 999998, 999999), 999999);
            Due.is("just above the least", round(3, 1, 2, -999998, -999999), -999999);
        });
    }

    private static void shown(int form, int reading, String want) {
        SlidingRanks x = with(reading);
        x.form(form);
        Due.isShown(x, 0, want);
    }

    private static void words() {
        Sentences.says("SHOWN of t: by ROUND, in bytes:", () -> {
            SlidingRanks x = with(0, 1);
            x.choose(3);
            Due.isShown(x, 1, "0.01");
            x.choose(4);
            x.part(1, 3);
            Due.isShown(x, 1, "0");
        });
        Sentences.says("- ahead of one below 0;", () -> {
            for (int form = 0; form < 3; form++) {
                shown(form, -125, "-1.25");
                shown(form, -1, "-0.01");
                shown(form, -999999, "-9999.99");
                SlidingRanks x = with(-1, 0);
                x.choose(4);
                x.part(2, 3);
                x.form(form);
                Due.isShown(x, 1, form == 1 ? "0.00" : "0");
            }
        });
        Sentences.says("the whole part;", () -> {
            int[] values = {0, 100, 900, 1000, 9900, 10000, 99900, 100000, 999900, 101000, 100100};
            String[] want = {"0", "1", "9", "10", "99", "100", "999", "1000", "9999", "1010", "1001"};
            for (int i = 0; i < values.length; i++) {
                shown(0, values[i], want[i]);
            }
            shown(0, 99, "0.99");
        });
        Sentences.says("cents: a point and two figures always;", () -> {
            shown(1, 0, "0.00");
            shown(1, 1, "0.01");
            shown(1, 10, "0.10");
            shown(1, 100, "1.00");
            shown(1, 999999, "9999.99");
            shown(1, 999990, "9999.90");
        });
        Sentences.says("plain: a point and as many figures as are needed (none: no point);", () -> {
            shown(0, 0, "0");
            shown(0, 1, "0.01");
            shown(0, 10, "0.1");
            shown(0, 11, "0.11");
            shown(0, 101, "1.01");
            shown(0, 110, "1.1");
            shown(0, 100, "1");
            shown(0, -110, "-1.1");
            shown(0, -100, "-1");
        });
        Sentences.says("sign: as plain, + ahead of one above 0.", () -> {
            shown(2, 0, "0");
            shown(2, 1, "+0.01");
            shown(2, 10, "+0.1");
            shown(2, 100, "+1");
            shown(2, 999999, "+9999.99");
            shown(2, -1, "-0.01");
            shown(2, -100, "-1");
            SlidingRanks x = with(0, 1);
            x.choose(4);
            x.part(1, 3);
            x.form(2);
            Due.isShown(x, 1, "0");
        });
        Sentences.says("Of one without RESULT: the four letters of \"none\".", () -> {
            for (int form = 0; form < 3; form++) {
                SlidingRanks x = with(NOTHING, 5);
                x.need(2);
                x.form(form);
                Due.isShown(x, 0, "none");
                Due.isShown(x, 1, "none");
                Due.is("there is no fifth", x.shown(0, 4), NONE);
            }
        });
    }

    private static void isMiddle(int middle, int spread, int... readings) {
        SlidingRanks x = with(readings);
        x.width(24);
        int t = readings.length - 1;
        Due.is("MIDDLE of " + java.util.Arrays.toString(readings), x.middle(t, 0), middle);
        Due.is("SPREAD of " + java.util.Arrays.toString(readings), x.middle(t, 1), spread);
    }

    private static void middles() {
        Sentences.says("MIDDLE of t: x (n less 1 by 2, down) of its ROW.", () -> {
            for (int n = 1; n <= 24; n++) {
                SlidingRanks x = new SlidingRanks();
                x.width(24);
                x.need(24);
                x.part(1, 1);
                for (int v = n; v >= 1; v--) {
                    x.add(v);
                }
                Due.is("of 1 to " + n, x.middle(n - 1, 0), (n + 1) / 2);
            }
        });
        Sentences.says("SPREAD of t: of all x their differences from MIDDLE, the least first: that at n less 1 by 2, down.", () -> {
            isMiddle(7, 0, 7);
            isMiddle(7, 0, 7, 9);
            isMiddle(9, 2, 7, 9, 90);
            isMiddle(9, 1, 7, 9, 90, 10);
            isMiddle(10, 1, 7, 10, 9, 90, 10, 11);
            isMiddle(10, 3, 7, 10, 5, 90, 13);
            isMiddle(5, 5, 0, 1, 2, 5, 50, 60, 10);
            isMiddle(50, 2, 50, 51, 52, 10, 20);
            isMiddle(-999999, 0, -999999, 999999);
            isMiddle(0, 999999, -999999, 0, 999999);
            isMiddle(-999999, 0, -999999, -999999, 999999, 999999);
            isMiddle(999999, 0, -999999, 999999, 999999, 999999, 999999);
            isMiddle(999998, 1, -999999, -999998, 999998, 999999, 999999);
        });
        Sentences.says("FAR by k is a READING t that is not missing, if it differs from its MIDDLE by more than k times its SPREAD.", () -> {
            for (int k = 1; k <= 20; k++) {
                int edge = 10 * k;
                SlidingRanks x = with(0, -10, 10, edge);
                x.width(4);
                Due.is("MIDDLE", x.middle(3, 0), 0);
                Due.is("SPREAD", x.middle(3, 1), 10);
                Due.is("as far as k times, k " + k, x.far(3, k), 0);
                x.set(3, edge + 1);
                Due.is("one more, k " + k, x.far(3, k), 1);
                x.lose(3);
                Due.is("missing, k " + k, x.far(3, k), 0);
            }
            SlidingRanks x = with(0, -10, 10, 20, -31);
            Due.is("below: 31 of 3 times 10", x.far(4, 3), 1);
            x.set(4, -30);
            Due.is("below: 30 of 3 times 10", x.far(4, 3), 0);
            x = with(5, 5);
            Due.is("SPREAD 0, no difference", x.far(1, 1), 0);
            x = with(5, 5, 6);
            Due.is("SPREAD 0, a difference", x.far(2, 20), 1);
            x = with(0, -999999, 999999);
            Due.is("20 times the greatest SPREAD", x.far(2, 20), 0);
            Due.is("once the greatest SPREAD", x.far(2, 1), 0);
            x = with(-999999, 999999);
            Due.is("the greatest difference", x.far(1, 20), 1);
            x.need(24);
            Due.is("NEED is not asked", x.far(1, 20), 1);
        });
    }

    private static void sheets() {
        Sentences.says("SHEETS 0 to 3 are rows of BYTES (lane 0), SHORTS (1), INTS (2) with 0 to 40 CELLS, or nothing (at first).", () -> {
            int[] laid = {-128, -128, 128, -129};
            int[][] held = {{-128, -128, -128, 127}, {-128, -128, 128, -129}, {-128, -128, 128, -129}};
            for (int k = 0; k <= 3; k++) {
                for (int lane = 0; lane <= 2; lane++) {
                    SlidingRanks x = new SlidingRanks();
                    Due.is("nothing at first", x.lay(k, 0, 0), -11);
                    Due.is("sheet(" + k + ", " + lane + ", 40)", x.sheet(k, lane, 40), 1);
                    Due.is("CELL 39", x.lay(k, 39, 5), 1);
                    Due.is("CELL 40", x.lay(k, 40, 5), -12);
                    for (int i = 0; i < laid.length; i++) {
                        x.lay(k, i, laid[i]);
                    }
                    Due.is("of its lane", x.read(k, lane, 0, 40), 40);
                    for (int i = 0; i < laid.length; i++) {
                        Due.is("lane " + lane + " holds", x.reading(i), held[lane][i]);
                    }
                    Due.is("the last CELL", x.reading(39), 5);
                    Due.is("sheet(" + k + ", " + lane + ", 0)", x.sheet(k, lane, 0), 1);
                    Due.is("no CELL 0", x.lay(k, 0, 5), -12);
                    Due.is("41 CELLS", x.sheet(k, lane, 41), BAD);
                }
            }
            SlidingRanks x = new SlidingRanks();
            Due.is("SHEET 4", x.sheet(4, 0, 1), BAD);
            Due.is("SHEET -1", x.sheet(-1, 0, 1), BAD);
            Due.is("lane 3", x.sheet(0, 3, 1), BAD);
            Due.is("lane -1", x.sheet(0, -1, 1), BAD);
        });
        Sentences.says("A FAULT is what the machine finds: 1 NULL (nothing), 2 INDEX, 3 CAST (another lane), 4 SIZE (below 0).", () -> {
            SlidingRanks x = new SlidingRanks();
            x.read(0, 0, 0, 1);
            Due.is("NULL by torn()", x.torn(), 1);
            Due.is("NULL by lay()", x.lay(0, 0, 0), -11);
            for (int made = 0; made <= 2; made++) {
                x.sheet(0, made, 1);
                for (int lane = 0; lane <= 2; lane++) {
                    x.read(0, lane, 0, 1);
                    Due.is("lane " + made + " as of " + lane, x.torn(), made == lane ? 0 : 3);
                }
                x.read(0, made, 1, 1);
                Due.is("INDEX by torn()", x.torn(), 2);
                Due.is("INDEX by lay()", x.lay(0, 1, 0), -12);
                Due.is("INDEX below 0", x.lay(0, -1, 0), -12);
            }
            Due.is("SIZE", x.sheet(0, 0, -1), -14);
            Due.is("SIZE, the least", x.sheet(0, 0, LEAST), -14);
        });
    }

    private static void constants() {
        Sentences.says("The constants: NOTHING = 100000000: What tells that there is none where a number may be any; what a missing one is told as.", () -> {
            Due.is("NOTHING", SlidingRanks.NOTHING, 100000000);
            SlidingRanks x = with(NOTHING, 7);
            Due.is("a missing one", x.reading(0), NOTHING);
            Due.is("no such one", x.reading(2), NOTHING);
            Due.is("no such x", x.item(1, 1), NOTHING);
            Due.is("no RESULT", x.result(0, 0), NOTHING);
            Due.is("no MIDDLE", x.middle(0, 0), NOTHING);
        });
    }
}
