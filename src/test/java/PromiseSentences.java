/** The sentences of the promises 1 to 35. */
final class PromiseSentences {
    private static final int BAD = -1, STATE = -2, FULL = -3, NONE = -4;
    private static final int NOTHING = 100000000;
    private static final int LEAST = Integer.MIN_VALUE, GREATEST = Integer.MAX_VALUE;

    /** By place: 1.5, -2, missing, 7.25, 3, 3, -0.05, three missing, 12, 4.1. */
    private static final String TOLD = "width 4;need 2;put 1.5 -2 miss 7.25 3 3 -0.05 miss miss miss 12 4.1;";

    private PromiseSentences() {
    }

    static void run() {
        newObject();
        feed();
        end();
        text();
        fault();
        rule();
        reading();
        row();
        item();
        result();
        rank();
        shown();
        middle();
        far();
        fars();
        above();
        most();
        add();
        miss();
        set();
        lose();
        drop();
        width();
        need();
        part();
        choose();
        form();
        drift();
        driftNumbers();
        keep();
        back();
        sheet();
        lay();
        read();
        readRefused();
        torn();
        count();
    }

    private static SlidingRanks with(int... readings) {
        return TermSentences.with(readings);
    }

    private static void newObject() {
        Sentences.under("Promise 1");
        Sentences.says("No READINGS;", () -> {
            SlidingRanks x = new SlidingRanks();
            Due.is("READINGS", x.rule(0), 0);
            Due.is("missing", x.rule(1), 0);
            Due.is("RESULTS", x.rule(8), 0);
            Due.is("READING 0", x.reading(0), NOTHING);
            Due.is("row(0, 0)", x.row(0, 0), BAD);
            Due.is("item(0, 0)", x.item(0, 0), NOTHING);
            Due.is("result(0, 0)", x.result(0, 0), NOTHING);
            Due.is("rank(0, 0, 0)", x.rank(0, 0, 0), BAD);
            Due.is("shown(0, 0)", x.shown(0, 0), BAD);
            Due.is("middle(0, 0)", x.middle(0, 0), NOTHING);
            Due.is("far(0, 1)", x.far(0, 1), BAD);
            Due.is("fars(1)", x.fars(1), 0);
            Due.is("above(-1, 0)", x.above(-1, 0), 0);
            Due.is("above(-1, 1)", x.above(-1, 1), NONE);
            Due.is("above(-1, 2)", x.above(-1, 2), NONE);
            Due.is("above(-1, 3)", x.above(-1, 3), 0);
            Due.is("most(0)", x.most(0), NONE);
            Due.is("most(1)", x.most(1), NONE);
            Due.is("set(0, 0)", x.set(0, 0), BAD);
            Due.is("lose(0)", x.lose(0), BAD);
            Due.is("drop(0)", x.drop(0), 0);
            Due.is("drop(1)", x.drop(1), BAD);
            Due.is("bytes SHOWN", x.count(3), 0);
            Due.is("IMAGES", x.count(0), 0);
            Due.is("bytes", x.count(1), 0);
            Due.is("an empty text", x.text(), 0);
            SlidingRanks y = with(1, 2);
            Due.is("another object has its own", y.rule(0), 2);
            Due.is("and this one none", x.rule(0), 0);
        });
        Sentences.says("SHEETS have nothing.", () -> {
            SlidingRanks x = new SlidingRanks();
            Due.is("CELLS of SHEET 0", x.count(2), NONE);
            for (int k = 0; k < 4; k++) {
                Due.is("lay(" + k + ", 0, 0)", x.lay(k, 0, 0), -11);
                for (int lane = 0; lane < 3; lane++) {
                    Due.is("read(" + k + ", " + lane + ", 0, 1)", x.read(k, lane, 0, 1), 0);
                    Due.is("torn()", x.torn(), 1);
                }
            }
        });
    }

    private static void feed() {
        Sentences.under("Promise 2");
        Sentences.says("A byte (0 to 127) comes behind THE TAPE: how many it has.", () -> {
            SlidingRanks x = new SlidingRanks();
            for (int c = 0; c <= 127; c++) {
                Due.is("feed(" + c + ")", x.feed(c), c + 1);
            }
            Due.is("bytes", x.count(1), 128);
            x.end(0);
            Due.is("after end(0)", x.feed('p'), 1);
            Due.feed(x, "ut 7;");
            Due.is("they are by order", x.text(), 1);
            Due.is("after text()", x.feed('p'), 1);
        });
        Sentences.says("BAD", () -> {
            SlidingRanks x = new SlidingRanks();
            int[] wrong = {LEAST, -129, -128, -1, 128, 129, 255, 256, 32 + 256, GREATEST};
            for (int c : wrong) {
                Due.is("feed(" + c + ")", x.feed(c), BAD);
            }
            Due.is("bytes", x.count(1), 0);
        });
        Sentences.says("FULL: more than 320.", () -> {
            SlidingRanks x = new SlidingRanks();
            for (int n = 1; n <= 320; n++) {
                Due.is("byte " + n, x.feed(' '), n);
            }
            Due.is("byte 321", x.feed(' '), FULL);
            Due.is("once more", x.feed(' '), FULL);
            Due.is("bytes", x.count(1), 320);
            x.end(319);
            Due.is("there is room again", x.feed(' '), 320);
            Due.is("and none again", x.feed(' '), FULL);
            x.text();
            Due.is("an empty tape has room", x.feed(' '), 1);
        });
    }

    private static void end() {
        Sentences.under("Promise 3");
        Sentences.says("THE TAPE keeps its first n bytes: how many it had.", () -> {
            SlidingRanks x = new SlidingRanks();
            Due.is("end(0) of none", x.end(0), 0);
            Due.feed(x, "put 1;put 2;");
            Due.is("end(12): all", x.end(12), 12);
            Due.is("bytes", x.count(1), 12);
            Due.is("end(6)", x.end(6), 12);
            Due.is("bytes", x.count(1), 6);
            Due.feed(x, "put 3;");
            Due.is("the text", x.text(), 2);
            Due.is("its first bytes", x.reading(0), 100);
            Due.is("what came behind them", x.reading(1), 300);
            Due.feed(x, "put 1;");
            Due.is("end(0)", x.end(0), 6);
            Due.is("none is kept", x.count(1), 0);
            x = new SlidingRanks();
            Due.feed(x, " ".repeat(320));
            Due.is("end(320) of a full tape", x.end(320), 320);
            Due.is("end(1)", x.end(1), 320);
            Due.is("end(1) again", x.end(1), 1);
        });
        Sentences.says("BAD.", () -> {
            SlidingRanks x = new SlidingRanks();
            Due.is("end(1) of none", x.end(1), BAD);
            Due.is("end(-1) of none", x.end(-1), BAD);
            Due.feed(x, "put 1;");
            int[] wrong = {LEAST, -1, 7, 320, 321, GREATEST};
            for (int n : wrong) {
                Due.is("end(" + n + ")", x.end(n), BAD);
            }
            Due.is("all bytes are kept", x.count(1), 6);
            Due.is("and tell the same", x.text(), 1);
        });
    }

    private static void text() {
        Sentences.under("Promise 4");
        Sentences.says("THE TAPE (empty then) tells all: how many READINGS;", () -> {
            SlidingRanks x = new SlidingRanks();
            Due.is("an empty tape", x.text(), 0);
            Due.is("one READING", Due.text(x, "put 7;"), 1);
            Due.is("the tape is empty", x.count(1), 0);
            Due.is("two, one missing", Due.text(x, "put miss 7;"), 2);
            Due.is("the tape is empty", x.count(1), 0);
            Due.is("the same tape is not told twice", x.text(), 0);
            Due.is("READINGS", x.rule(0), 0);
            Due.is("96 READINGS", Due.text(x, "put" + " 1".repeat(96) + ";"), 96);
        });
        Sentences.says("-10 less the place of its FAULT: that which was told stays.", () -> {
            SlidingRanks x = Due.of("width 7;need 3;part 2 9;rule line;form sign;put 1 2 miss;");
            x.keep(0);
            x.add(9);
            String before = Due.all(x);
            Due.is("place 0", Due.text(x, "$"), -10);
            Due.is("the tape is empty", x.count(1), 0);
            Due.is("place 6", Due.text(x, "put 4;bad"), -16);
            Due.is("the tape is empty", x.count(1), 0);
            Due.is("the length", Due.text(x, "width 1;need 1;put 4"), -30);
            Due.is("the tape is empty", x.count(1), 0);
            String after = Due.all(x);
            Due.holds("but the fault, all stays: was " + before + ", is " + after,
                    after.replaceAll("2 0$", "0 0").equals(before));
            Due.is("the IMAGE stays", x.back(0), 3);
            Due.is("the tape begins anew", Due.text(x, "put 5;"), 1);
            Due.is("place 320", Due.text(x, "put 1" + " ".repeat(315)), -330);
        });
    }

    private static void fault() {
        Sentences.under("Promise 5");
        Sentences.says("The FAULT of the latest text();", () -> {
            SlidingRanks x = new SlidingRanks();
            String[] texts = {"$", "put", "width 0;", "need 1;need 1;", "put" + " 1".repeat(97)};
            for (int fault = 1; fault <= texts.length; fault++) {
                Due.text(x, texts[fault - 1]);
                Due.is("fault()", x.fault(), fault);
                Due.is("asked again", x.fault(), fault);
            }
            x.feed('$');
            x.feed(128);
            x.end(9);
            x.end(0);
            x.add(5);
            x.keep(0);
            x.back(0);
            x.read(0, 0, 0, 1);
            x.sheet(0, 0, -1);
            Due.is("no other call changes it", x.fault(), 5);
        });
        Sentences.says("0.", () -> {
            SlidingRanks x = new SlidingRanks();
            Due.is("without a text()", x.fault(), 0);
            Due.text(x, "$");
            Due.text(x, "put 1;");
            Due.is("of a text that is taken", x.fault(), 0);
            Due.text(x, "$");
            x.text();
            Due.is("of an empty text", x.fault(), 0);
        });
    }

    private static void rule() {
        Sentences.under("Promise 6");
        Sentences.says("0 READINGS, 1 missing ones, 2 WIDTH, 3 NEED, 4 p, 5 q, 6 RULE, 7 FORM, 8 READINGS with a RESULT.", () -> {
            SlidingRanks x = Due.of(TOLD + "part 3 8;rule near;form cents;");
            int[] told = {12, 4, 4, 2, 3, 8, 2, 1, 9};
            int[] first = {0, 0, 5, 1, 1, 2, 0, 0, 0};
            for (int what = 0; what < told.length; what++) {
                Due.is("rule(" + what + ")", x.rule(what), told[what]);
                Due.is("rule(" + what + ") of a new one", new SlidingRanks().rule(what), first[what]);
            }
            x = Due.of("put" + " miss".repeat(60) + ";");
            Due.is("all missing", x.rule(1), 60);
            Due.is("none with a RESULT", x.rule(8), 0);
            x = TermSentences.full();
            Due.is("all with a RESULT", x.rule(8), 96);
            x.need(5);
            Due.is("all but four", x.rule(8), 92);
            x.need(6);
            Due.is("NEED above WIDTH", x.rule(8), 0);
            x.width(24);
            x.need(24);
            Due.is("the widest, and all of it needed", x.rule(8), 73);
            x = with(NOTHING, 1, NOTHING, NOTHING, 2);
            x.width(2);
            Due.is("a WINDOW of missing ones has none", x.rule(8), 3);
        });
        Sentences.says("BAD.", () -> {
            SlidingRanks x = with(1);
            Due.is("rule(-1)", x.rule(-1), BAD);
            Due.is("rule(9)", x.rule(9), BAD);
            Due.is("rule least", x.rule(LEAST), BAD);
            Due.is("rule greatest", x.rule(GREATEST), BAD);
        });
    }

    private static void reading() {
        Sentences.under("Promise 7");
        Sentences.says("A READING.", () -> {
            SlidingRanks x = with(999999, 0, -999999);
            Due.is("the first", x.reading(0), 999999);
            Due.is("0", x.reading(1), 0);
            Due.is("the last", x.reading(2), -999999);
            Due.is("of 96", TermSentences.full().reading(95), 96);
        });
        Sentences.says("NOTHING: it is missing, or there is none.", () -> {
            SlidingRanks x = with(1, NOTHING, 3);
            Due.is("missing", x.reading(1), NOTHING);
            int[] none = {LEAST, -1, 3, 95, 96, 97, GREATEST};
            for (int t : none) {
                Due.is("reading(" + t + ")", x.reading(t), NOTHING);
            }
            x.drop(1);
            Due.is("what was dropped", x.reading(2), NOTHING);
            Due.is("READING 96 of 96", TermSentences.full().reading(96), NOTHING);
        });
    }

    private static void row() {
        Sentences.under("Promise 8");
        Sentences.says("Of the ROW of a READING: 0 how many, 1 PLACE's whole part, 2 its rest", () -> {
            SlidingRanks x = Due.of(TOLD + "part 2 5;");
            int[] many = {1, 2, 2, 3, 3, 3, 4, 3, 2, 1, 1, 2};
            for (int t = 0; t < many.length; t++) {
                Due.is("row(" + t + ", 0)", x.row(t, 0), many[t]);
            }
            Due.is("3 times 2 by 5", x.row(6, 1), 1);
            Due.is("its rest", x.row(6, 2), 1);
            Due.is("2 times 2 by 5", x.row(3, 1), 0);
            Due.is("its rest", x.row(3, 2), 4);
            Due.is("of a missing READING", x.row(7, 2), 4);
        });
        Sentences.says("(both NONE: there is no RESULT).", () -> {
            SlidingRanks x = with(NOTHING, 5, 6);
            x.need(2);
            Due.is("n 0", x.row(0, 0), 0);
            Due.is("n 0: whole part", x.row(0, 1), NONE);
            Due.is("n 0: rest", x.row(0, 2), NONE);
            Due.is("n 1 of NEED 2", x.row(1, 0), 1);
            Due.is("n 1: whole part", x.row(1, 1), NONE);
            Due.is("n 1: rest", x.row(1, 2), NONE);
            Due.is("n 2: whole part", x.row(2, 1), 0);
            Due.is("n 2: rest", x.row(2, 2), 1);
        });
        Sentences.says("BAD.", () -> {
            SlidingRanks x = with(1, NOTHING);
            int[] wrong = {LEAST, -1, 3, GREATEST};
            for (int w : wrong) {
                Due.is("row(0, " + w + ")", x.row(0, w), BAD);
                Due.is("row(1, " + w + ")", x.row(1, w), BAD);
                for (int what = 0; what < 3; what++) {
                    Due.is("row(" + w + ", " + what + ")", x.row(w, what), BAD);
                }
            }
            Due.is("row(2, 0)", x.row(2, 0), BAD);
        });
    }

    private static void item() {
        Sentences.under("Promise 9");
        Sentences.says("The i-th (0 on) of the ROW of a READING.", () -> {
            SlidingRanks x = Due.of(TOLD);
            int[] want = {-5, 300, 300, 725};
            for (int i = 0; i < want.length; i++) {
                Due.is("item(6, " + i + ")", x.item(6, i), want[i]);
            }
            Due.is("of a missing READING", x.item(7, 0), -5);
            Due.is("without a RESULT", x.item(0, 0), 150);
            x = TermSentences.full();
            x.width(24);
            Due.is("the 23rd of 24", x.item(95, 23), 96);
        });
        Sentences.says("NOTHING: there is none.", () -> {
            SlidingRanks x = Due.of(TOLD);
            int[] wrong = {LEAST, -1, 4, 23, 24, GREATEST};
            for (int i : wrong) {
                Due.is("item(6, " + i + ")", x.item(6, i), NOTHING);
            }
            int[] none = {LEAST, -1, 12, 96, GREATEST};
            for (int t : none) {
                Due.is("item(" + t + ", 0)", x.item(t, 0), NOTHING);
            }
            Due.is("an empty ROW", with(NOTHING).item(0, 0), NOTHING);
            x = TermSentences.full();
            x.width(24);
            Due.is("the 24th of 24", x.item(95, 24), NOTHING);
        });
    }

    private static void result() {
        Sentences.under("Promise 10");
        Sentences.says("RESULT of a READING: 0 ABOVE, 1 BELOW, 2 ROUND.", () -> {
            SlidingRanks x = with(1, -4);
            x.choose(3);
            Due.is("ABOVE", x.result(1, 0), -3);
            Due.is("BELOW", x.result(1, 1), 2);
            Due.is("ROUND", x.result(1, 2), -2);
            x.miss();
            Due.is("of a missing READING", x.result(2, 0), -3);
        });
        Sentences.says("NOTHING: there is none.", () -> {
            SlidingRanks x = with(NOTHING, 5, 6);
            x.need(2);
            for (int what = 0; what < 3; what++) {
                Due.is("n 0", x.result(0, what), NOTHING);
                Due.is("n 1 of NEED 2", x.result(1, what), NOTHING);
                Due.is("READING 3 of 3", x.result(3, what), NOTHING);
                Due.is("READING -1", x.result(-1, what), NOTHING);
                Due.is("READING least", x.result(LEAST, what), NOTHING);
                Due.is("READING greatest", x.result(GREATEST, what), NOTHING);
            }
            int[] wrong = {LEAST, -1, 3, GREATEST};
            for (int what : wrong) {
                Due.is("result(2, " + what + ")", x.result(2, what), NOTHING);
            }
        });
    }

    private static void rank() {
        Sentences.under("Promise 11");
        Sentences.says("How many of the ROW of a READING are less than v (what 0), are v (1).", () -> {
            SlidingRanks x = with(3, NOTHING, -2, 3, 7);
            int[] v = {LEAST, -3, -2, -1, 2, 3, 4, 6, 7, 8, NOTHING, GREATEST};
            int[] less = {0, 0, 0, 1, 1, 1, 3, 3, 3, 4, 4, 4};
            int[] same = {0, 0, 1, 0, 0, 2, 0, 0, 1, 0, 0, 0};
            for (int i = 0; i < v.length; i++) {
                Due.is("less than " + v[i], x.rank(4, v[i], 0), less[i]);
                Due.is("are " + v[i], x.rank(4, v[i], 1), same[i]);
            }
            x = with(NOTHING);
            Due.is("an empty ROW, less", x.rank(0, GREATEST, 0), 0);
            Due.is("an empty ROW, same", x.rank(0, NOTHING, 1), 0);
            x = with(5, 5, 5, 5, 5, 5);
            Due.is("only the WINDOW", x.rank(5, 5, 1), 5);
            x.width(6);
            x.need(24);
            Due.is("without a RESULT", x.rank(5, 6, 0), 6);
            x = with(1, 2, 3);
            x.rank(2, 3, 1);
            Due.is("not of the ROW asked for before", x.rank(1, 3, 1), 0);
            x = TermSentences.full();
            x.width(24);
            Due.is("the widest ROW, less", x.rank(95, 96, 0), 23);
            Due.is("the widest ROW, same", x.rank(95, 96, 1), 1);
            Due.is("just out of the widest ROW", x.rank(95, 72, 1), 0);
        });
        Sentences.says("BAD.", () -> {
            SlidingRanks x = with(1);
            int[] wrong = {LEAST, -1, 2, GREATEST};
            for (int w : wrong) {
                Due.is("rank(0, 1, " + w + ")", x.rank(0, 1, w), BAD);
                Due.is("rank(" + w + ", 1, 0)", x.rank(w, 1, 0), BAD);
                Due.is("rank(" + w + ", 1, 1)", x.rank(w, 1, 1), BAD);
            }
            Due.is("rank(1, 1, 0)", x.rank(1, 1, 0), BAD);
            Due.is("rank(1, 1, 1)", x.rank(1, 1, 1), BAD);
        });
    }

    private static void shown() {
        Sentences.under("Promise 12");
        Sentences.says("Byte k (0 on) of SHOWN of a READING.", () -> {
            SlidingRanks x = with(-999999);
            int[] bytes = {'-', '9', '9', '9', '9', '.', '9', '9'};
            for (int k = 0; k < bytes.length; k++) {
                Due.is("byte " + k, x.shown(0, k), bytes[k]);
            }
            x = with(NOTHING);
            int[] none = {'n', 'o', 'n', 'e'};
            for (int k = 0; k < none.length; k++) {
                Due.is("byte " + k + " of none", x.shown(0, k), none[k]);
            }
        });
        Sentences.says("BAD: there is no such READING, k below 0;", () -> {
            SlidingRanks x = with(5);
            Due.is("shown(0, -1)", x.shown(0, -1), BAD);
            Due.is("shown(0, least)", x.shown(0, LEAST), BAD);
            int[] none = {LEAST, -1, 1, 96, GREATEST};
            for (int t : none) {
                Due.is("shown(" + t + ", 0)", x.shown(t, 0), BAD);
                Due.is("shown(" + t + ", 99)", x.shown(t, 99), BAD);
            }
        });
        Sentences.says("NONE: there are not so many.", () -> {
            Due.is("shown(0, 1) of 1", with(100).shown(0, 1), NONE);
            Due.is("shown(0, 4) of none", with(NOTHING).shown(0, 4), NONE);
            Due.is("shown(0, 8) of -9999.99", with(-999999).shown(0, 8), NONE);
            Due.is("shown(0, greatest)", with(100).shown(0, GREATEST), NONE);
            SlidingRanks x = with(999999, 100);
            x.width(1);
            x.shown(0, 0);
            Due.is("behind a shorter one, after a longer one", x.shown(1, 1), NONE);
        });
    }

    private static void middle() {
        Sentences.under("Promise 13");
        Sentences.says("MIDDLE (what 0), SPREAD (1) of a READING.", () -> {
            SlidingRanks x = Due.of(TOLD);
            int[] middle = {150, -200, -200, 150, 300, 300, 300, 300, -5, -5, 1200, 410};
            int[] spread = {0, 0, 0, 350, 425, 0, 0, 0, 0, 0, 0, 0};
            for (int t = 0; t < middle.length; t++) {
                Due.is("middle(" + t + ", 0)", x.middle(t, 0), middle[t]);
                Due.is("middle(" + t + ", 1)", x.middle(t, 1), spread[t]);
            }
        });
        Sentences.says("NOTHING: its ROW has none, there is no such READING, what.", () -> {
            SlidingRanks x = with(NOTHING, 5);
            int[] none = {LEAST, -1, 2, 96, GREATEST};
            for (int what = 0; what < 2; what++) {
                Due.is("an empty ROW", x.middle(0, what), NOTHING);
                for (int t : none) {
                    Due.is("middle(" + t + ", " + what + ")", x.middle(t, what), NOTHING);
                }
            }
            int[] wrong = {LEAST, -1, 2, GREATEST};
            for (int what : wrong) {
                Due.is("middle(1, " + what + ")", x.middle(1, what), NOTHING);
            }
        });
    }

    private static void far() {
        Sentences.under("Promise 14");
        Sentences.says("Whether a READING is FAR by k (1 to 20) (1, 0; missing: 0).", () -> {
            SlidingRanks x = with(0, -10, 10, 200, NOTHING);
            x.width(4);
            for (int k = 1; k <= 20; k++) {
                Due.is("200 of " + k + " times 10", x.far(3, k), k < 20 ? 1 : 0);
                Due.is("a missing one by " + k, x.far(4, k), 0);
                Due.is("the first by " + k, x.far(0, k), 0);
            }
            x = with(NOTHING);
            Due.is("missing, its ROW empty", x.far(0, 1), 0);
        });
        Sentences.says("BAD.", () -> {
            SlidingRanks x = with(1, NOTHING);
            int[] wrong = {LEAST, -1, 0, 21, GREATEST};
            for (int k : wrong) {
                Due.is("far(0, " + k + ")", x.far(0, k), BAD);
                Due.is("far(1, " + k + "), missing", x.far(1, k), BAD);
            }
            int[] none = {LEAST, -1, 2, 96, GREATEST};
            for (int t : none) {
                Due.is("far(" + t + ", 1)", x.far(t, 1), BAD);
            }
        });
    }

    private static void fars() {
        Sentences.under("Promise 15");
        Sentences.says("How many are FAR by k (1 to 20).", () -> {
            Due.is("of none", new SlidingRanks().fars(1), 0);
            Due.is("of missing ones", with(NOTHING, NOTHING).fars(20), 0);
            // Behind the first, 5 differs from a MIDDLE of 0 whose SPREAD is 0, again and again.
            SlidingRanks x = with(0, 0, 0, 5, NOTHING, 0, 0, 5);
            Due.is("by 1", x.fars(1), 2);
            Due.is("by 20", x.fars(20), 2);
            x = with(0, -10, 10, 30, -40);
            x.width(4);
            // READING 1 has the MIDDLE -10, READING 2 the MIDDLE 0 and SPREAD 10, READING 3 0 and 10, READING 4 -10 and 20.
            Due.is("30 of 2 times 10", x.fars(2), 1);
            Due.is("30 of 3 times 10", x.fars(3), 0);
            Due.is("and 30 of once 20", x.fars(1), 2);
            // In the widest ROW of 1, 2, 3 on the last differs by 12 from a MIDDLE whose SPREAD is 6.
            x = TermSentences.full();
            x.width(24);
            Due.is("all but the first and the third by 1", x.fars(1), 94);
            Due.is("those behind 1, 5, 9, 13, 17, 21 others by 2", x.fars(2), 6);
            SlidingRanks y = new SlidingRanks();
            y.drift(3, 48);
            y.drift(4, 48);
            for (int k = 1; k <= 20; k += 19) {
                int far = 0;
                for (int t = 0; t < 96; t++) {
                    far += y.far(t, k);
                }
                Due.is("fars(" + k + ") as by far()", y.fars(k), far);
            }
        });
        Sentences.says("BAD.", () -> {
            SlidingRanks x = with(1);
            int[] wrong = {LEAST, -1, 0, 21, GREATEST};
            for (int k : wrong) {
                Due.is("fars(" + k + ")", x.fars(k), BAD);
                Due.is("fars(" + k + ") of none", new SlidingRanks().fars(k), BAD);
            }
        });
    }

    private static void isAbove(SlidingRanks x, int v, int many, int first, int last, int most) {
        Due.is("above " + v + ": how many", x.above(v, 0), many);
        Due.is("above " + v + ": the first", x.above(v, 1), first);
        Due.is("above " + v + ": the last", x.above(v, 2), last);
        Due.is("above " + v + ": the most side by side", x.above(v, 3), most);
    }

    private static void above() {
        Sentences.under("Promise 16");
        Sentences.says("Of READINGS with a RESULT above v: how many (what 0), the first (1; NONE), the last (2; NONE), the most side by side (3).", () -> {
            SlidingRanks x = with(1, 2, NOTHING, 2, 3, 2, 0, 4, NOTHING);
            x.width(1);
            isAbove(x, LEAST, 7, 0, 7, 5);
            isAbove(x, -1, 7, 0, 7, 5);
            isAbove(x, 0, 6, 0, 7, 3);
            isAbove(x, 1, 5, 1, 7, 3);
            isAbove(x, 2, 2, 4, 7, 1);
            isAbove(x, 3, 1, 7, 7, 1);
            isAbove(x, 4, 0, NONE, NONE, 0);
            isAbove(x, GREATEST, 0, NONE, NONE, 0);
            isAbove(new SlidingRanks(), 0, 0, NONE, NONE, 0);
            isAbove(with(NOTHING, NOTHING), LEAST, 0, NONE, NONE, 0);
            isAbove(with(5), 4, 1, 0, 0, 1);
            isAbove(TermSentences.full(), 0, 96, 0, 95, 96);
            x = TermSentences.full();
            x.width(24);
            isAbove(x, 84, 0, NONE, NONE, 0);
            isAbove(x, 83, 1, 95, 95, 1);
            isAbove(x, 12, 72, 24, 95, 72);
            x = with(1, 9);
            isAbove(x, 1, 0, NONE, NONE, 0);
            x = with(5, 5, 0, 5, 5, 5, 0, 5);
            x.width(1);
            isAbove(x, 0, 6, 0, 7, 3);
        });
        Sentences.says("RESULT above v", () -> {
            SlidingRanks x = with(100, 101);
            x.choose(4);
            x.part(1, 100);
            isAbove(x, 100, 1, 1, 1, 1);
            isAbove(x, 99, 2, 0, 1, 2);
            isAbove(x, 101, 0, NONE, NONE, 0);
            x.part(99, 100);
            isAbove(x, 101, 0, NONE, NONE, 0);
            x = with(-101, -100);
            x.choose(3);
            isAbove(x, -101, 1, 1, 1, 1);
            isAbove(x, -100, 0, NONE, NONE, 0);
            x = with(999999, 999999);
            x.choose(4);
            x.part(50, 100);
            isAbove(x, 999998, 2, 0, 1, 2);
            isAbove(x, 999999, 0, NONE, NONE, 0);
            // v times 100 would wrap around in an int: to a number below 0, to 0.
            isAbove(x, 21474837, 0, NONE, NONE, 0);
            isAbove(x, 1 << 30, 0, NONE, NONE, 0);
            isAbove(x, -(1 << 30), 2, 0, 1, 2);
            isAbove(x, -21474837, 2, 0, 1, 2);
            isAbove(x, -42949673, 2, 0, 1, 2);
            isAbove(x, 42949673, 0, NONE, NONE, 0);
        });
        Sentences.says("BAD.", () -> {
            int[] wrong = {LEAST, -1, 4, GREATEST};
            for (int what : wrong) {
                Due.is("above(0, " + what + ")", with(1).above(0, what), BAD);
                Due.is("above(0, " + what + ") of none", new SlidingRanks().above(0, what), BAD);
            }
        });
    }

    private static void most() {
        Sentences.under("Promise 17");
        Sentences.says("Of all RESULTS: the READING with the least (what 0), the greatest (1), of several the first.", () -> {
            SlidingRanks x = with(NOTHING, 2, 1, 3, 1, 3, NOTHING);
            x.width(1);
            Due.is("the least", x.most(0), 2);
            Due.is("the greatest", x.most(1), 3);
            x = with(7, 7, 7);
            Due.is("all the same: the least", x.most(0), 0);
            Due.is("all the same: the greatest", x.most(1), 0);
            x = with(-5, -7, -6);
            x.width(1);
            Due.is("the least below 0", x.most(0), 1);
            Due.is("the greatest below 0", x.most(1), 0);
            x = with(-999999, 999999);
            x.width(1);
            Due.is("the least of all", x.most(0), 0);
            Due.is("the greatest of all", x.most(1), 1);
            x = with(100, 101, 100, 102);
            x.width(2);
            x.need(2);
            x.choose(4);
            x.part(1, 100);
            // RESULTS by a hundred: 10001, 10001, 10002.
            Due.is("not by ROUND: the least", x.most(0), 1);
            Due.is("not by ROUND: the greatest", x.most(1), 3);
            x = with(NOTHING, NOTHING, 4);
            Due.is("one alone: the least", x.most(0), 2);
            Due.is("one alone: the greatest", x.most(1), 2);
            Due.is("of 96: the least", TermSentences.full().most(0), 0);
            x = TermSentences.full();
            x.part(1, 1);
            Due.is("of 96: the greatest", x.most(1), 95);
            x.width(24);
            Due.is("the widest: the greatest", x.most(1), 95);
            x.part(0, 1);
            Due.is("the widest: the least", x.most(0), 0);
            x = with(1, 9);
            x.width(2);
            Due.is("no WINDOW behind the last: the greatest", x.most(1), 0);
            x = with(9, 1);
            x.width(2);
            x.part(1, 1);
            Due.is("no WINDOW behind the last: the least", x.most(0), 0);
        });
        Sentences.says("BAD;", () -> {
            int[] wrong = {LEAST, -1, 2, GREATEST};
            for (int what : wrong) {
                Due.is("most(" + what + ")", with(1).most(what), BAD);
                Due.is("most(" + what + ") of none", new SlidingRanks().most(what), BAD);
            }
        });
        Sentences.says("NONE: there are none.", () -> {
            for (int what = 0; what < 2; what++) {
                Due.is("no READINGS", new SlidingRanks().most(what), NONE);
                Due.is("missing ones alone", with(NOTHING, NOTHING).most(what), NONE);
                SlidingRanks x = with(1, 2, 3);
                x.need(4);
                Due.is("too few for NEED", x.most(what), NONE);
            }
        });
    }

    private static void add() {
        Sentences.under("Promise 18");
        Sentences.says("A READING more: how many there are.", () -> {
            SlidingRanks x = new SlidingRanks();
            for (int n = 1; n <= 96; n++) {
                Due.is("add " + n, x.add(-n), n);
                Due.is("it is behind the others", x.reading(n - 1), -n);
            }
        });
        Sentences.says("BAD: v;", () -> {
            SlidingRanks x = new SlidingRanks();
            int[] wrong = {LEAST, -NOTHING, -1000000, 1000000, NOTHING, GREATEST};
            for (int v : wrong) {
                Due.is("add(" + v + ")", x.add(v), BAD);
            }
            Due.is("READINGS", x.rule(0), 0);
            Due.is("add(-999999)", x.add(-999999), 1);
            Due.is("add(999999)", x.add(999999), 2);
        });
        Sentences.says("FULL.", () -> {
            SlidingRanks x = TermSentences.full();
            Due.is("the 97th", x.add(0), FULL);
            Due.is("READINGS", x.rule(0), 96);
            Due.is("the last one is as it was", x.reading(95), 96);
            x.drop(1);
            Due.is("there is room again", x.add(0), 96);
        });
    }

    private static void miss() {
        Sentences.under("Promise 19");
        Sentences.says("A missing READING more: how many there are.", () -> {
            SlidingRanks x = with(5);
            for (int n = 2; n <= 96; n++) {
                Due.is("miss " + n, x.miss(), n);
            }
            Due.is("missing", x.rule(1), 95);
            Due.is("READING 0", x.reading(0), 5);
            Due.is("READING 1", x.reading(1), NOTHING);
            Due.is("READING 95", x.reading(95), NOTHING);
        });
        Sentences.says("FULL.", () -> {
            SlidingRanks x = TermSentences.full();
            Due.is("the 97th", x.miss(), FULL);
            Due.is("READINGS", x.rule(0), 96);
            Due.is("missing", x.rule(1), 0);
            x.drop(96);
            Due.is("there is room again", x.miss(), 1);
        });
    }

    private static void set() {
        Sentences.under("Promise 20");
        Sentences.says("A READING becomes v: 1, if it was missing, else 0.", () -> {
            SlidingRanks x = with(1, NOTHING, 3);
            Due.is("set(0, 7)", x.set(0, 7), 0);
            Due.is("set(1, -999999)", x.set(1, -999999), 1);
            Due.is("set(1, 999999)", x.set(1, 999999), 0);
            Due.is("set(2, 3): as it was", x.set(2, 3), 0);
            Due.is("READING 0", x.reading(0), 7);
            Due.is("READING 1", x.reading(1), 999999);
            Due.is("READING 2", x.reading(2), 3);
            Due.is("missing", x.rule(1), 0);
            Due.is("READINGS", x.rule(0), 3);
            x.lose(1);
            Due.is("missing again", x.set(1, 0), 1);
            Due.is("the last of 96", TermSentences.full().set(95, 0), 0);
        });
        Sentences.says("BAD.", () -> {
            SlidingRanks x = with(1, NOTHING);
            int[] none = {LEAST, -1, 2, 95, 96, GREATEST};
            for (int t : none) {
                Due.is("set(" + t + ", 0)", x.set(t, 0), BAD);
            }
            int[] wrong = {LEAST, -1000000, 1000000, NOTHING, GREATEST};
            for (int v : wrong) {
                Due.is("set(0, " + v + ")", x.set(0, v), BAD);
                Due.is("set(1, " + v + ")", x.set(1, v), BAD);
            }
            Due.is("READING 0", x.reading(0), 1);
            Due.is("READING 1", x.reading(1), NOTHING);
        });
    }

    private static void lose() {
        Sentences.under("Promise 21");
        Sentences.says("A READING is missing: 1, if it was so, else 0.", () -> {
            SlidingRanks x = with(1, NOTHING, 3);
            Due.is("lose(2)", x.lose(2), 0);
            Due.is("lose(2) again", x.lose(2), 1);
            Due.is("lose(1)", x.lose(1), 1);
            Due.is("READING 0", x.reading(0), 1);
            Due.is("READING 2", x.reading(2), NOTHING);
            Due.is("READINGS", x.rule(0), 3);
            Due.is("missing", x.rule(1), 2);
            Due.is("lose(0)", x.lose(0), 0);
            Due.is("the last of 96", TermSentences.full().lose(95), 0);
        });
        Sentences.says("BAD.", () -> {
            SlidingRanks x = with(1);
            int[] none = {LEAST, -1, 1, 95, 96, GREATEST};
            for (int t : none) {
                Due.is("lose(" + t + ")", x.lose(t), BAD);
            }
            Due.is("missing", x.rule(1), 0);
        });
    }

    private static void drop() {
        Sentences.under("Promise 22");
        Sentences.says("The first n READINGS go (0 to how many there are): how many are left.", () -> {
            SlidingRanks x = with(1, NOTHING, 3, 4);
            Due.is("drop(0)", x.drop(0), 4);
            Due.is("READING 0", x.reading(0), 1);
            Due.is("drop(1)", x.drop(1), 3);
            Due.is("READING 0", x.reading(0), NOTHING);
            Due.is("READING 1", x.reading(1), 3);
            Due.is("READING 2", x.reading(2), 4);
            Due.is("READING 3", x.reading(3), NOTHING);
            Due.is("missing", x.rule(1), 1);
            Due.is("what went is in no ROW", x.row(2, 0), 2);
            Due.is("drop(3): all", x.drop(3), 0);
            Due.is("drop(0) of none", x.drop(0), 0);
            x = TermSentences.full();
            Due.is("drop(95) of 96", x.drop(95), 1);
            Due.is("the last is left", x.reading(0), 96);
            Due.is("drop(96) of 96", TermSentences.full().drop(96), 0);
        });
        Sentences.says("BAD.", () -> {
            SlidingRanks x = with(1, 2);
            int[] wrong = {LEAST, -1, 3, 96, GREATEST};
            for (int n : wrong) {
                Due.is("drop(" + n + ")", x.drop(n), BAD);
            }
            Due.is("READINGS", x.rule(0), 2);
            Due.is("READING 0", x.reading(0), 1);
            Due.is("drop(1) of none", new SlidingRanks().drop(1), BAD);
            Due.is("drop(97) of 96", TermSentences.full().drop(97), BAD);
        });
    }

    private static void width() {
        Sentences.under("Promise 23");
        Sentences.says("WIDTH becomes w: what it was.", () -> {
            SlidingRanks x = TermSentences.full();
            Due.is("width(1)", x.width(1), 5);
            Due.is("n", x.row(95, 0), 1);
            Due.is("width(24)", x.width(24), 1);
            Due.is("n", x.row(95, 0), 24);
            Due.is("width(24) again", x.width(24), 24);
            Due.is("width(2)", x.width(2), 24);
            Due.is("n", x.row(95, 0), 2);
            Due.is("rule(2)", x.rule(2), 2);
        });
        Sentences.says("BAD.", () -> {
            SlidingRanks x = new SlidingRanks();
            int[] wrong = {LEAST, -1, 0, 25, 96, GREATEST};
            for (int w : wrong) {
                Due.is("width(" + w + ")", x.width(w), BAD);
            }
            Due.is("WIDTH", x.rule(2), 5);
        });
    }

    private static void need() {
        Sentences.under("Promise 24");
        Sentences.says("NEED becomes n: what it was.", () -> {
            SlidingRanks x = with(1, 2);
            Due.is("need(2)", x.need(2), 1);
            Due.is("n 1", x.result(0, 0), NOTHING);
            Due.is("n 2", x.result(1, 0), 1);
            Due.is("need(24)", x.need(24), 2);
            Due.is("n 2", x.result(1, 0), NOTHING);
            Due.is("need(1)", x.need(1), 24);
            Due.is("n 1", x.result(0, 0), 1);
        });
        Sentences.says("BAD.", () -> {
            SlidingRanks x = new SlidingRanks();
            int[] wrong = {LEAST, -1, 0, 25, 96, GREATEST};
            for (int n : wrong) {
                Due.is("need(" + n + ")", x.need(n), BAD);
            }
            Due.is("NEED", x.rule(3), 1);
        });
    }

    private static void part() {
        Sentences.under("Promise 25");
        Sentences.says("PART becomes p of q: 1000 times what p was, and q.", () -> {
            SlidingRanks x = with(1, 2, 3);
            Due.is("part(100, 100)", x.part(100, 100), 1002);
            Due.is("the greatest", x.result(2, 0), 3);
            Due.is("part(0, 1)", x.part(0, 1), 100100);
            Due.is("the least", x.result(2, 0), 1);
            Due.is("part(3, 7)", x.part(3, 7), 1);
            Due.is("part(7, 99)", x.part(7, 99), 3007);
            Due.is("part(1, 1)", x.part(1, 1), 7099);
            Due.is("p", x.rule(4), 1);
            Due.is("q", x.rule(5), 1);
        });
        Sentences.says("BAD.", () -> {
            SlidingRanks x = new SlidingRanks();
            int[][] wrong = {{0, 0}, {-1, 1}, {2, 1}, {0, 101}, {101, 101}, {101, 100}, {-2, -1}, {0, -1}, {1, 0},
                {LEAST, 1}, {GREATEST, 1}, {0, LEAST}, {0, GREATEST}};
            for (int[] w : wrong) {
                Due.is("part(" + w[0] + ", " + w[1] + ")", x.part(w[0], w[1]), BAD);
            }
            Due.is("p", x.rule(4), 1);
            Due.is("q", x.rule(5), 2);
        });
    }

    private static void choose() {
        Sentences.under("Promise 26");
        Sentences.says("RULE becomes r: what it was.", () -> {
            SlidingRanks x = with(10, 20);
            int[] above = {10, 20, 10, 30, 30};
            for (int r = 1; r <= 4; r++) {
                Due.is("choose(" + r + ")", x.choose(r), r - 1);
                Due.is("ABOVE", x.result(1, 0), above[r]);
            }
            Due.is("choose(0)", x.choose(0), 4);
            Due.is("ABOVE", x.result(1, 0), above[0]);
            Due.is("choose(0) again", x.choose(0), 0);
        });
        Sentences.says("BAD.", () -> {
            SlidingRanks x = new SlidingRanks();
            x.choose(4);
            int[] wrong = {LEAST, -1, 5, GREATEST};
            for (int r : wrong) {
                Due.is("choose(" + r + ")", x.choose(r), BAD);
            }
            Due.is("RULE", x.rule(6), 4);
        });
    }

    private static void form() {
        Sentences.under("Promise 27");
        Sentences.says("FORM becomes f: what it was.", () -> {
            SlidingRanks x = with(100);
            Due.is("form(1)", x.form(1), 0);
            Due.isShown(x, 0, "1.00");
            Due.is("form(2)", x.form(2), 1);
            Due.isShown(x, 0, "+1");
            Due.is("form(0)", x.form(0), 2);
            Due.isShown(x, 0, "1");
            Due.is("form(0) again", x.form(0), 0);
        });
        Sentences.says("BAD.", () -> {
            SlidingRanks x = new SlidingRanks();
            x.form(2);
            int[] wrong = {LEAST, -1, 3, GREATEST};
            for (int f : wrong) {
                Due.is("form(" + f + ")", x.form(f), BAD);
            }
            Due.is("FORM", x.rule(7), 2);
        });
    }

    /** What one READING by the seed becomes behind one of so many hundredths. */
    private static int drifted(int seed, int ahead) {
        SlidingRanks x = with(ahead);
        Due.is("drift(" + seed + ", 1)", x.drift(seed, 1), 1);
        return x.reading(1);
    }

    private static void drift() {
        Sentences.under("Promise 28");
        Sentences.says("By a seed, n READINGS more (1 to 48), as long as there is room:", () -> {
            SlidingRanks x = new SlidingRanks();
            Due.is("48 to none", x.drift(7, 48), 48);
            Due.is("1 more", x.drift(7, 1), 1);
            Due.is("46 more", x.drift(7, 46), 46);
            int last = x.reading(94);
            Due.is("48, with room for one", x.drift(7, 48), 1);
            Due.is("READINGS", x.rule(0), 96);
            Due.is("those ahead stay", x.reading(94), last);
            last = x.reading(95);
            Due.is("48, with no room", x.drift(7, 48), 0);
            Due.is("1, with no room", x.drift(7, 1), 0);
            Due.is("READINGS", x.rule(0), 96);
            Due.is("the last stays", x.reading(95), last);
        });
        Sentences.says("the seed becomes seed times 1103515245 and 12345;", () -> {
            // Reckoned apart from the class, without end: bits 32 on play no part.
            int[] seeds = {0, 1, 7, -1, GREATEST, LEAST};
            int[][] steps = {
                {NOTHING, -62, 23, -21, 18, 55}, {50, 159, 31, 92, 136, 151}, {-181, 11, 78, 14, -172, 10},
                {-7, 75, 15, -135, -57, -40}, {-7, 75, 15, -135, -57, -40}, {NOTHING, -62, 23, -21, 18, 55}};
            for (int i = 0; i < seeds.length; i++) {
                SlidingRanks x = new SlidingRanks();
                x.drift(seeds[i], 6);
                int sum = 0;
                for (int t = 0; t < 6; t++) {
                    sum += steps[i][t] == NOTHING ? 0 : steps[i][t];
                    Due.is("seed " + seeds[i] + ", READING " + t, x.reading(t), steps[i][t] == NOTHING ? NOTHING : sum);
                }
            }
        });
        Sentences.says("bits 16 to 30 of it are got:", () -> {
            // By these seeds the bits 16 to 30 are all 0 but the lowest, or all 1; the others are 0, or 1.
            int[] low = {-404969853, -460866786, 1742513795, 1686616862};
            int[] high = {-1861048701, -1916945634, 286434947, 230538014};
            for (int i = 0; i < low.length; i++) {
                Due.is("got 1", drifted(low[i], 0), -200);
                Due.is("got 32767", drifted(high[i], 0), -158);
            }
        });
    }

    private static void driftNumbers() {
        Sentences.says("missing, if got modulo 9 is 0;", () -> {
            int[] seeds = {-59267453, -115164386, 2088216195, 2032319262, 1124378243, 1068481310, 2066523779, 2010626846};
            int[] got = {0, 0, 0, 0, 9, 9, 6417, 6417};
            for (int i = 0; i < seeds.length; i++) {
                Due.is("got " + got[i], drifted(seeds[i], 5), NOTHING);
            }
            Due.is("got 8", drifted(1470080643, 0), -200);
            Due.is("got 10", drifted(778675843, 0), -200);
            Due.is("got 6416", drifted(-1882741117, 0), -200);
        });
        Sentences.says("else the one ahead of it that was not missing (0: there is none),", () -> {
            int seed = 1;
            SlidingRanks x = new SlidingRanks();
            x.drift(seed, 1);
            Due.is("there is none", x.reading(0), 50);
            x = with(NOTHING, NOTHING);
            x.drift(seed, 1);
            Due.is("missing ones alone", x.reading(2), 50);
            x = with(1000, 7, NOTHING, NOTHING);
            x.drift(seed, 1);
            Due.is("ahead of missing ones", x.reading(4), 57);
            x = with(1000, 7);
            x.drop(2);
            x.drift(seed, 1);
            Due.is("what was dropped is not there", x.reading(0), 50);
            x = with(1000, 7);
            x.lose(1);
            x.drift(seed, 1);
            Due.is("what was lost is not there", x.reading(2), 1050);
            x = with(1000);
            x.drift(0, 2);
            Due.is("a missing one of its own", x.reading(1), NOTHING);
            Due.is("is passed over", x.reading(2), 938);
        });
        Sentences.says("and got by 16 (down) modulo 401, less 200", () -> {
            int[] seeds = {-404969853, -949836157, -1295538557, 1794614915, 1448912515, -646470013, -992172413,
                -1537038717, -1882741117, -1515346301};
            int[] got = {1, 15, 16, 3200, 3201, 6400, 6401, 6415, 6416, 32766};
            int[] moved = {-200, -200, -199, 0, 0, 200, 200, 200, -200, -158};
            for (int i = 0; i < seeds.length; i++) {
                Due.is("got " + got[i], drifted(seeds[i], 1000), 1000 + moved[i]);
            }
        });
        Sentences.says("(-999999 at least, 999999 at most):", () -> {
            int down = -404969853;
            int up = -646470013;
            Due.is("to the least", drifted(down, -999799), -999999);
            Due.is("below the least", drifted(down, -999800), -999999);
            Due.is("from the least", drifted(down, -999999), -999999);
            Due.is("above the least", drifted(down, -999798), -999998);
            Due.is("to the greatest", drifted(up, 999799), 999999);
            Due.is("above the greatest", drifted(up, 999800), 999999);
            Due.is("from the greatest", drifted(up, 999999), 999999);
            Due.is("below the greatest", drifted(up, 999798), 999998);
            SlidingRanks x = with(999999);
            x.drift(1, 3);
            Due.is("the bounded one goes on: the first", x.reading(1), 999999);
            x = with(999999);
            x.drift(7, 2);
            Due.is("the bounded one goes on: down", x.reading(1), 999818);
            Due.is("the bounded one goes on: up", x.reading(2), 999829);
            x = with(-999999);
            x.drift(7, 2);
            Due.is("the least, and then up", x.reading(2), -999988);
        });
        Sentences.says("how many came.", () -> {
            SlidingRanks x = new SlidingRanks();
            for (int n = 1; n <= 13; n++) {
                Due.is("drift(5, " + n + ")", x.drift(5, n), n);
            }
            Due.is("READINGS", x.rule(0), 91);
            Due.is("5 of 6", x.drift(5, 6), 5);
            Due.is("0 of 6", x.drift(5, 6), 0);
        });
        Sentences.says("BAD.", () -> {
            SlidingRanks x = new SlidingRanks();
            int[] wrong = {LEAST, -1, 0, 49, 96, GREATEST};
            for (int n : wrong) {
                Due.is("drift(1, " + n + ")", x.drift(1, n), BAD);
                Due.is("drift(1, " + n + ") where none has room", TermSentences.full().drift(1, n), BAD);
            }
            Due.is("READINGS", x.rule(0), 0);
        });
    }

    private static void keep() {
        Sentences.under("Promise 29");
        Sentences.says("IMAGE k (0, 1) is READINGS, WIDTH, NEED, PART, RULE, FORM: whether there was one (1, 0).", () -> {
            for (int k = 0; k < 2; k++) {
                SlidingRanks x = Due.of("width 7;need 3;part 2 9;rule line;form sign;put 1 miss 3;");
                Due.is("keep(" + k + ")", x.keep(k), 0);
                Due.is("IMAGES", x.count(0), 1);
                Due.is("the other is none", x.back(1 - k), STATE);
                x.set(0, 5);
                x.lose(2);
                x.add(8);
                x.width(1);
                x.need(1);
                x.part(1, 1);
                x.choose(1);
                x.form(1);
                Due.is("back(" + k + ")", x.back(k), 3);
                int[] kept = {3, 1, 7, 3, 2, 9, 4, 2};
                for (int what = 0; what < kept.length; what++) {
                    Due.is("rule(" + what + ")", x.rule(what), kept[what]);
                }
                Due.is("READING 0", x.reading(0), 100);
                Due.is("READING 1", x.reading(1), NOTHING);
                Due.is("READING 2", x.reading(2), 300);
                x.add(8);
                Due.is("keep(" + k + ") again", x.keep(k), 1);
                x.drop(4);
                Due.is("the newer is kept", x.back(k), 4);
                Due.is("keep of the other", x.keep(1 - k), 0);
                Due.is("IMAGES", x.count(0), 2);
            }
            SlidingRanks x = TermSentences.full();
            x.keep(0);
            x.drop(96);
            x.keep(1);
            Due.is("an IMAGE of 96", x.back(0), 96);
            Due.is("its last", x.reading(95), 96);
            Due.is("an IMAGE of none", x.back(1), 0);
            Due.is("the IMAGE of 96 once more", x.back(0), 96);
        });
        Sentences.says("BAD.", () -> {
            SlidingRanks x = with(1);
            int[] wrong = {LEAST, -1, 2, GREATEST};
            for (int k : wrong) {
                Due.is("keep(" + k + ")", x.keep(k), BAD);
            }
            Due.is("IMAGES", x.count(0), 0);
        });
    }

    private static void back() {
        Sentences.under("Promise 30");
        Sentences.says("All is as IMAGE k: READINGS.", () -> {
            SlidingRanks x = with(1, NOTHING);
            x.keep(0);
            x.width(9);
            x.add(3);
            x.keep(1);
            x.sheet(0, 2, 3);
            x.feed('$');
            Due.is("back(0)", x.back(0), 2);
            Due.is("WIDTH", x.rule(2), 5);
            Due.is("back(1)", x.back(1), 3);
            Due.is("WIDTH", x.rule(2), 9);
            x.set(0, 77);
            x.drop(1);
            Due.is("what changes behind it is not in the IMAGE", x.back(1), 3);
            Due.is("READING 0", x.reading(0), 1);
            Due.is("the tape is none of it", x.count(1), 1);
            Due.is("SHEETS are none of it", x.count(2), 3);
            Due.is("IMAGES stay", x.count(0), 2);
        });
        Sentences.says("BAD;", () -> {
            SlidingRanks x = with(1);
            x.keep(0);
            x.keep(1);
            x.add(2);
            int[] wrong = {LEAST, -1, 2, GREATEST};
            for (int k : wrong) {
                Due.is("back(" + k + ")", x.back(k), BAD);
            }
            Due.is("READINGS", x.rule(0), 2);
        });
        Sentences.says("STATE: there is none.", () -> {
            SlidingRanks x = with(1);
            Due.is("back(0)", x.back(0), STATE);
            Due.is("back(1)", x.back(1), STATE);
            x.keep(1);
            x.add(2);
            Due.is("IMAGE 1 alone: back(0)", x.back(0), STATE);
            Due.is("READINGS", x.rule(0), 2);
            Due.text(x, "put 1;");
            Due.is("after a text: back(1)", x.back(1), STATE);
        });
    }

    private static void sheet() {
        Sentences.under("Promise 31");
        Sentences.says("A SHEET is a new row of CELLS 0: 1.", () -> {
            SlidingRanks x = new SlidingRanks();
            for (int n = 0; n <= 40; n++) {
                Due.is("sheet(0, 2, " + n + ")", x.sheet(0, 2, n), 1);
                Due.is("CELLS", x.count(2), n);
            }
            for (int i = 0; i < 40; i++) {
                x.lay(0, i, 9);
            }
            x.lay(3, 0, 9);
            Due.is("in place of another", x.sheet(0, 2, 40), 1);
            Due.is("read(0, 2, 0, 40)", x.read(0, 2, 0, 40), 40);
            for (int i = 0; i < 40; i++) {
                Due.is("CELL " + i, x.reading(i), 0);
            }
            Due.is("of another lane", x.sheet(0, 0, 1), 1);
            Due.is("as of the lane before", x.read(0, 2, 0, 1), 0);
            Due.is("CAST", x.torn(), 3);
            Due.is("CELL 0 by its lane", x.read(0, 0, 0, 1), 1);
            Due.is("0", x.reading(40), 0);
            Due.is("the others have nothing still", x.lay(3, 0, 9), -11);
            shorterThenLonger();
        });
        Sentences.says("BAD: also n above 40;", () -> {
            SlidingRanks x = new SlidingRanks();
            x.sheet(0, 2, 3);
            int[] wrong = {LEAST, -1, 4, GREATEST};
            for (int k : wrong) {
                Due.is("sheet(" + k + ", 0, 1)", x.sheet(k, 0, 1), BAD);
                Due.is("sheet(" + k + ", 0, -1)", x.sheet(k, 0, -1), BAD);
            }
            int[] lanes = {LEAST, -1, 3, GREATEST};
            for (int lane : lanes) {
                Due.is("sheet(0, " + lane + ", 1)", x.sheet(0, lane, 1), BAD);
                Due.is("sheet(0, " + lane + ", -1)", x.sheet(0, lane, -1), BAD);
            }
            int[] many = {41, 42, GREATEST};
            for (int n : many) {
                Due.is("sheet(0, 0, " + n + ")", x.sheet(0, 0, n), BAD);
            }
            Due.is("the SHEET stays", x.count(2), 3);
        });
        Sentences.says("-10 - 4.", () -> {
            SlidingRanks x = new SlidingRanks();
            int[] sizes = {LEAST, -41, -2, -1};
            for (int n : sizes) {
                for (int lane = 0; lane < 3; lane++) {
                    Due.is("sheet(0, " + lane + ", " + n + ")", x.sheet(0, lane, n), -14);
                }
            }
            Due.is("nothing stays nothing", x.count(2), NONE);
            x.sheet(0, 2, 3);
            x.lay(0, 2, 9);
            Due.is("sheet(0, 0, -1)", x.sheet(0, 0, -1), -14);
            Due.is("the SHEET stays", x.read(0, 2, 2, 1), 1);
            Due.is("with its CELLS", x.reading(0), 9);
        });
    }

    /** Of a row that was longer nothing is left: not behind a shorter one, nor in a longer one after that. */
    private static void shorterThenLonger() {
        for (int lane = 0; lane < 3; lane++) {
            SlidingRanks x = new SlidingRanks();
            x.sheet(2, 2, 40);
            for (int i = 0; i < 40; i++) {
                x.lay(2, i, 9);
            }
            Due.is("shorter", x.sheet(2, lane, 3), 1);
            Due.is("CELL 3 is none to lay", x.lay(2, 3, 7), -12);
            Due.is("CELL 3 is none to read", x.read(2, lane, 3, 1), 0);
            Due.is("INDEX", x.torn(), 2);
            Due.is("longer", x.sheet(2, lane, 40), 1);
            Due.is("all are read", x.read(2, lane, 0, 40), 40);
            for (int i = 0; i < 40; i++) {
                Due.is("CELL " + i + " of the longer", x.reading(i), 0);
            }
            Due.is("no CELLS", x.sheet(2, lane, 0), 1);
            Due.is("none to read", x.read(2, lane, 0, 1), 0);
            Due.is("INDEX, not NULL", x.torn(), 2);
        }
    }

    /** What a CELL of a lane holds of v, seen by read(). */
    private static int held(int lane, int v) {
        SlidingRanks x = new SlidingRanks();
        x.sheet(1, lane, 1);
        Due.is("lay(1, 0, " + v + ")", x.lay(1, 0, v), 1);
        x.read(1, lane, 0, 1);
        return x.reading(0);
    }

    private static void lay() {
        Sentences.under("Promise 32");
        Sentences.says("CELL i of a SHEET becomes v (its lowest bits): 1.", () -> {
            int[] v = {0, 1, -1, 127, 128, 255, 256, -128, -129, 32767, 32768, 65535, 65536, -32768, -32769, 999999, -999999};
            for (int i = 0; i < v.length; i++) {
                Due.is("a BYTE", held(0, v[i]), Math.floorMod(v[i] + 128, 256) - 128);
                Due.is("a SHORT", held(1, v[i]), Math.floorMod(v[i] + 32768, 65536) - 32768);
                Due.is("an INT", held(2, v[i]), v[i]);
            }
            Due.is("a BYTE of the least", held(0, LEAST), 0);
            Due.is("a BYTE of the greatest", held(0, GREATEST), -1);
            Due.is("a SHORT of the least", held(1, LEAST), 0);
            Due.is("a SHORT of the greatest", held(1, GREATEST), -1);
            SlidingRanks x = new SlidingRanks();
            x.sheet(0, 2, 3);
            x.sheet(1, 2, 3);
            x.lay(0, 0, 5);
            x.lay(0, 2, 7);
            x.lay(0, 2, 8);
            x.read(0, 2, 0, 3);
            x.read(1, 2, 0, 3);
            int[] cells = {5, 0, 8, 0, 0, 0};
            for (int t = 0; t < cells.length; t++) {
                Due.is("CELL " + t % 3 + " of SHEET " + t / 3, x.reading(t), cells[t]);
            }
        });
        Sentences.says("BAD: k;", () -> {
            SlidingRanks x = new SlidingRanks();
            x.sheet(0, 0, 1);
            int[] wrong = {LEAST, -1, 4, GREATEST};
            for (int k : wrong) {
                Due.is("lay(" + k + ", 0, 0)", x.lay(k, 0, 0), BAD);
                Due.is("lay(" + k + ", -1, 0)", x.lay(k, -1, 0), BAD);
            }
        });
        Sentences.says("-10 less the FAULT: NULL, INDEX.", () -> {
            SlidingRanks x = new SlidingRanks();
            x.sheet(0, 0, 0);
            x.sheet(1, 1, 2);
            int[] beyond = {LEAST, -1, 2, 40, GREATEST};
            for (int i : beyond) {
                Due.is("INDEX: lay(1, " + i + ", 5)", x.lay(1, i, 5), -12);
                Due.is("INDEX: lay(0, " + i + ", 5)", x.lay(0, i, 5), -12);
                Due.is("NULL: lay(2, " + i + ", 5)", x.lay(2, i, 5), -11);
            }
            Due.is("INDEX: lay(0, 0, 5)", x.lay(0, 0, 5), -12);
            Due.is("NULL: lay(3, 0, 5)", x.lay(3, 0, 5), -11);
            x.read(1, 1, 0, 2);
            Due.is("CELL 0 stays", x.reading(0), 0);
            Due.is("CELL 1 stays", x.reading(1), 0);
            Due.is("torn() is none of it", x.torn(), 0);
        });
    }

    /** SHEET 1 has the INTS 11, 12, 13. */
    private static SlidingRanks ints() {
        SlidingRanks x = with(1);
        x.sheet(1, 2, 3);
        x.lay(1, 0, 11);
        x.lay(1, 1, 12);
        x.lay(1, 2, 13);
        return x;
    }

    private static void isRead(int lane, int f, int n, int fault, int... came) {
        SlidingRanks x = ints();
        String call = "read(1, " + lane + ", " + f + ", " + n + ")";
        Due.is(call, x.read(1, lane, f, n), came.length);
        Due.is(call + ": torn()", x.torn(), fault);
        Due.is(call + ": READINGS", x.rule(0), 1 + came.length);
        for (int i = 0; i < came.length; i++) {
            Due.is(call + ": READING " + (1 + i), x.reading(1 + i), came[i]);
        }
    }

    private static void read() {
        Sentences.under("Promise 33");
        Sentences.says("n (0 to 40) READINGS are read of a SHEET taken as of a lane, a CELL each from CELL f on, one behind another as by add(): how many came.", () -> {
            isRead(2, 0, 0, 0);
            isRead(2, 0, 1, 0, 11);
            isRead(2, 0, 3, 0, 11, 12, 13);
            isRead(2, 1, 2, 0, 12, 13);
            isRead(2, 2, 1, 0, 13);
            isRead(2, 3, 0, 0);
            isRead(2, GREATEST, 0, 0);
            SlidingRanks x = new SlidingRanks();
            x.sheet(3, 1, 40);
            x.lay(3, 0, -5);
            x.lay(3, 39, 5);
            Due.is("read(3, 1, 0, 40)", x.read(3, 1, 0, 40), 40);
            Due.is("the first CELL", x.reading(0), -5);
            Due.is("the last CELL", x.reading(39), 5);
            Due.is("once more", x.read(3, 1, 0, 40), 40);
            Due.is("READINGS", x.rule(0), 80);
            Due.is("the SHEET stays", x.reading(79), 5);
        });
        Sentences.says("What the machine refuses: those ahead came (its FAULT is asked by torn()).", () -> {
            isRead(2, 0, 4, 2, 11, 12, 13);
            isRead(2, 0, 40, 2, 11, 12, 13);
            isRead(2, 2, 2, 2, 13);
            isRead(2, 3, 1, 2);
            isRead(2, -1, 4, 2);
            isRead(2, LEAST, 40, 2);
            isRead(2, GREATEST, 40, 2);
            isRead(0, 0, 1, 3);
            isRead(1, 0, 3, 3);
            isRead(1, 3, 1, 3);
            isRead(0, -1, 1, 3);
            SlidingRanks x = ints();
            Due.is("of nothing", x.read(2, 2, 0, 3), 0);
            Due.is("NULL", x.torn(), 1);
            Due.is("of nothing, no CELL", x.read(2, 2, -1, 3), 0);
            Due.is("NULL", x.torn(), 1);
            x.sheet(2, 2, 0);
            Due.is("of no CELLS", x.read(2, 2, 0, 3), 0);
            Due.is("INDEX", x.torn(), 2);
        });
        Sentences.says("BAD: k, lane, n;", () -> {
            SlidingRanks x = ints();
            int[] sheets = {LEAST, -1, 4, GREATEST};
            for (int k : sheets) {
                Due.is("read(" + k + ", 2, 0, 1)", x.read(k, 2, 0, 1), BAD);
                Due.is("read(" + k + ", 2, 0, 0)", x.read(k, 2, 0, 0), BAD);
            }
            int[] lanes = {LEAST, -1, 3, GREATEST};
            for (int lane : lanes) {
                Due.is("read(1, " + lane + ", 0, 1)", x.read(1, lane, 0, 1), BAD);
                Due.is("read(1, " + lane + ", 0, 0)", x.read(1, lane, 0, 0), BAD);
                Due.is("read(0, " + lane + ", 0, 1)", x.read(0, lane, 0, 1), BAD);
            }
            int[] many = {LEAST, -1, 41, GREATEST};
            for (int n : many) {
                Due.is("read(1, 2, 0, " + n + ")", x.read(1, 2, 0, n), BAD);
                Due.is("read(0, 2, 0, " + n + ")", x.read(0, 2, 0, n), BAD);
            }
            Due.is("READINGS", x.rule(0), 1);
            Due.is("torn()", x.torn(), 0);
        });
    }

    private static void readRefused() {
        Sentences.says("-20 less i: the i-th is refused by add() (in either way): then none came;", () -> {
            int[] wrong = {LEAST, -1000000, 1000000, GREATEST};
            for (int v : wrong) {
                for (int i = 0; i < 3; i++) {
                    SlidingRanks x = ints();
                    x.lay(1, i, v);
                    Due.is("BAD at " + i, x.read(1, 2, 0, 3), -20 - i);
                    Due.is("READINGS", x.rule(0), 1);
                    Due.is("READING 1", x.reading(1), NOTHING);
                    Due.is("from " + i, x.read(1, 2, i, 1), -20);
                    Due.is("those ahead of it", x.read(1, 2, 0, i), i);
                }
            }
            SlidingRanks x = new SlidingRanks();
            x.sheet(1, 2, 40);
            x.lay(1, 39, 1000000);
            Due.is("BAD at 39", x.read(1, 2, 0, 40), -59);
            Due.is("READINGS", x.rule(0), 0);
            for (int room = 0; room < 4; room++) {
                x = TermSentences.full();
                x.drop(room);
                x.sheet(1, 2, 3);
                Due.is("room for " + room, x.read(1, 2, 0, 3), room < 3 ? -20 - room : 3);
                Due.is("READINGS", x.rule(0), room < 3 ? 96 - room : 96);
                Due.is("the last of before stays", x.reading(95 - room), 96);
            }
        });
        Sentences.says("the first met.", () -> {
            SlidingRanks x = ints();
            x.lay(1, 2, 1000000);
            Due.is("BAD at 2, INDEX at 3", x.read(1, 2, 0, 4), -22);
            Due.is("torn()", x.torn(), 0);
            x.lay(1, 1, -1000000);
            Due.is("BAD at 1 and at 2", x.read(1, 2, 0, 3), -21);
            Due.is("BAD at 0 and at 1", x.read(1, 2, 1, 3), -20);
            Due.is("INDEX at 0, BAD had it been at 1", x.read(1, 2, -1, 3), 0);
            Due.is("torn()", x.torn(), 2);
            Due.is("CAST at 0", x.read(1, 1, 1, 2), 0);
            Due.is("torn()", x.torn(), 3);
            x = TermSentences.full();
            x.sheet(1, 2, 2);
            x.lay(1, 1, 1000000);
            Due.is("FULL at 0, BAD at 1", x.read(1, 2, 0, 2), -20);
            Due.is("INDEX ahead of FULL", x.read(1, 2, 2, 1), 0);
            Due.is("torn()", x.torn(), 2);
            Due.is("CAST ahead of FULL", x.read(1, 0, 0, 1), 0);
            Due.is("torn()", x.torn(), 3);
            Due.is("NULL ahead of FULL", x.read(0, 0, 0, 1), 0);
            Due.is("torn()", x.torn(), 1);
            x.drop(2);
            x.lay(1, 1, 5);
            Due.is("INDEX at 2, FULL had it been there", x.read(1, 2, 0, 3), 2);
            Due.is("READINGS", x.rule(0), 96);
            Due.is("torn()", x.torn(), 2);
        });
    }

    private static void torn() {
        Sentences.under("Promise 34");
        Sentences.says("The FAULT of the latest read() that came to an end;", () -> {
            SlidingRanks x = ints();
            x.read(0, 2, 0, 1);
            Due.is("NULL", x.torn(), 1);
            Due.is("asked again", x.torn(), 1);
            x.lay(1, 9, 0);
            x.sheet(2, 0, -1);
            x.text();
            x.keep(0);
            x.back(0);
            Due.is("read() alone is asked", x.torn(), 1);
            x.read(1, 2, 3, 1);
            Due.is("INDEX", x.torn(), 2);
            x.lay(1, 0, 1000000);
            Due.is("refused by add()", x.read(1, 2, 0, 1), -20);
            Due.is("that came to no end", x.torn(), 2);
            x.read(1, 2, 0, 41);
            x.read(4, 2, 0, 1);
            x.read(1, 3, 0, 1);
            Due.is("nor did what is BAD", x.torn(), 2);
            x.read(1, 0, 0, 1);
            Due.is("CAST", x.torn(), 3);
        });
        Sentences.says("0.", () -> {
            SlidingRanks x = ints();
            Due.is("without a read()", x.torn(), 0);
            x.read(0, 2, 0, 1);
            x.read(1, 2, 0, 3);
            Due.is("of a whole one", x.torn(), 0);
            x.read(0, 2, 0, 1);
            x.read(1, 2, 0, 0);
            Due.is("of one that reads no CELL", x.torn(), 0);
        });
    }

    private static void count() {
        Sentences.under("Promise 35");
        Sentences.says("How many: 0 IMAGES,", () -> {
            SlidingRanks x = with(1);
            Due.is("none", x.count(0), 0);
            x.keep(1);
            Due.is("IMAGE 1", x.count(0), 1);
            x.keep(1);
            Due.is("IMAGE 1 again", x.count(0), 1);
            x.keep(0);
            Due.is("both", x.count(0), 2);
            x.back(0);
            Due.is("back() takes none", x.count(0), 2);
            x.text();
            Due.is("gone", x.count(0), 0);
        });
        Sentences.says("1 bytes on THE TAPE,", () -> {
            SlidingRanks x = new SlidingRanks();
            Due.is("none", x.count(1), 0);
            Due.feed(x, " ".repeat(320));
            Due.is("320", x.count(1), 320);
            x.feed(' ');
            Due.is("320 still", x.count(1), 320);
            x.end(7);
            Due.is("7", x.count(1), 7);
            x.text();
            Due.is("none again", x.count(1), 0);
        });
        Sentences.says("2 CELLS of SHEET 0 (NONE: nothing),", () -> {
            SlidingRanks x = new SlidingRanks();
            x.sheet(1, 0, 3);
            Due.is("nothing", x.count(2), NONE);
            x.sheet(0, 1, 0);
            Due.is("no CELLS", x.count(2), 0);
            x.sheet(0, 0, 40);
            Due.is("40 CELLS", x.count(2), 40);
            x.sheet(1, 0, 5);
            Due.is("SHEET 0 alone", x.count(2), 40);
        });
        Sentences.says("3 bytes SHOWN of all READINGS.", () -> {
            Due.is("no READINGS", new SlidingRanks().count(3), 0);
            SlidingRanks x = with(100, NOTHING, -250);
            x.width(1);
            Due.is("1, none, -2.5", x.count(3), 9);
            x.form(1);
            Due.is("1.00, none, -2.50", x.count(3), 13);
            x.form(2);
            Due.is("+1, none, -2.5", x.count(3), 10);
            x.need(2);
            Due.is("none, none, none", x.count(3), 12);
            x = new SlidingRanks();
            for (int n = 0; n < 96; n++) {
                x.add(-999999);
            }
            Due.is("96 times -9999.99", x.count(3), 768);
            x = TermSentences.full();
            x.width(24);
            x.form(1);
            Due.is("the widest, 96 of four bytes", x.count(3), 384);
        });
        Sentences.says("BAD.", () -> {
            SlidingRanks x = with(1);
            Due.is("count(-1)", x.count(-1), BAD);
            Due.is("count(4)", x.count(4), BAD);
            Due.is("count least", x.count(LEAST), BAD);
            Due.is("count greatest", x.count(GREATEST), BAD);
        });
    }
}
