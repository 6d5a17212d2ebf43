/** A method for each promise of the document: ordinary inputs, the edges that it names, wrong inputs. */
public final class PromisesTest {
    private static final int BAD = -1, STATE = -2, FULL = -3, NONE = -4;
    private static final int NOTHING = 100000000;
    private static final int LEAST = Integer.MIN_VALUE, GREATEST = Integer.MAX_VALUE;

    /** Readings, by place: 1.5, -2, missing, 7.25, 3, 3, -0.05, three missing, 12, 4.1. */
    private static final String TOLD =
            "width 4;need 2;put 1.5 -2 miss 7.25 3 3 -0.05 miss miss miss 12 4.1;";

    public static void main(String[] args) {
        promise1();
        promise2();
        promise3();
        promise4();
        promise4Settings();
        promise4Readings();
        promise4And5Faults();
        promise5();
        promise6();
        promise7();
        promise8();
        promise9();
        promise10();
        promise10Rules();
        promise10Near();
        promise10Round();
        promise11();
        promise12();
        promise12Forms();
        promise13();
        promise14();
        promise15();
        promise16();
        promise17();
        promise18();
        promise19();
        promise20();
        promise21();
        promise22();
        promise23();
        promise24();
        promise25();
        promise26();
        promise27();
        promise28();
        promise29();
        promise30();
        promise31();
        promise32();
        promise33();
        promise33Refused();
        promise34();
        promise35();
        scansAfterOtherRows();
        refusedChangesNothing();
        Due.close();
    }

    private static void promise1() {
        SlidingRanks x = new SlidingRanks();
        int[] first = {0, 0, 5, 1, 1, 2, 0, 0, 0};
        for (int what = 0; what < first.length; what++) {
            Due.is("new: rule(" + what + ")", x.rule(what), first[what]);
        }
        Due.is("new: fault()", x.fault(), 0);
        Due.is("new: torn()", x.torn(), 0);
        Due.is("new: count(0)", x.count(0), 0);
        Due.is("new: count(1)", x.count(1), 0);
        Due.is("new: count(2)", x.count(2), NONE);
        Due.is("new: count(3)", x.count(3), 0);
        for (int k = 0; k < 4; k++) {
            Due.is("new: lay(" + k + ", 0, 0)", x.lay(k, 0, 0), -11);
        }
        Due.is("new: back(0)", x.back(0), STATE);
        Due.is("new: back(1)", x.back(1), STATE);
    }

    private static void promise2() {
        SlidingRanks x = new SlidingRanks();
        Due.is("feed(0)", x.feed(0), 1);
        Due.is("feed(127)", x.feed(127), 2);
        Due.is("feed(128)", x.feed(128), BAD);
        Due.is("feed(-1)", x.feed(-1), BAD);
        Due.is("feed least", x.feed(LEAST), BAD);
        Due.is("feed greatest", x.feed(GREATEST), BAD);
        for (int n = 3; n <= 320; n++) {
            Due.is("feed " + n, x.feed(32), n);
        }
        Due.is("feed of a full tape", x.feed(32), FULL);
        Due.is("feed of a full tape, bad", x.feed(128), BAD);
        Due.is("a full tape", x.count(1), 320);
    }

    private static void promise3() {
        SlidingRanks x = new SlidingRanks();
        Due.is("end(0) of none", x.end(0), 0);
        Due.is("end(1) of none", x.end(1), BAD);
        Due.feed(x, "put 1;put 2;");
        Due.is("end(-1)", x.end(-1), BAD);
        Due.is("end(13)", x.end(13), BAD);
        Due.is("end(12)", x.end(12), 12);
        Due.is("end(6)", x.end(6), 12);
        Due.is("bytes left", x.count(1), 6);
        Due.feed(x, "put 3;");
        Due.is("the text is as kept", x.text(), 2);
        Due.is("the first reading", x.reading(0), 100);
        Due.is("the second reading", x.reading(1), 300);
    }

    private static void promise4() {
        SlidingRanks x = Due.of("width 7;need 3;part 2 9;rule line;form sign;put 1 2 3;");
        x.keep(0);
        x.keep(1);
        Due.is("the tape is empty", x.count(1), 0);
        Due.is("a refused text", Due.text(x, "put 4;bad"), -16);
        Due.is("the tape is empty after it too", x.count(1), 0);
        int[] stays = {3, 0, 7, 3, 2, 9, 4, 2};
        for (int what = 0; what < stays.length; what++) {
            Due.is("stays: rule(" + what + ")", x.rule(what), stays[what]);
        }
        Due.is("images stay", x.count(0), 2);
        Due.is("an empty text", x.text(), 0);
        int[] first = {0, 0, 5, 1, 1, 2, 0, 0, 0};
        for (int what = 0; what < first.length; what++) {
            Due.is("as at first: rule(" + what + ")", x.rule(what), first[what]);
        }
        Due.is("images are gone", x.count(0), 0);
        Due.is("image 0 is gone", x.back(0), STATE);
        Due.is("image 1 is gone", x.back(1), STATE);
        Due.is("blanks are a text", Due.text(x, "   "), 0);
        Due.is("the whole tape", Due.text(x, "put 1;" + " ".repeat(308) + "put 2;"), 2);
    }

    private static void promise4Settings() {
        String[] rules = {"low", "high", "near", "mean", "line"};
        for (int r = 0; r < rules.length; r++) {
            Due.is("rule " + rules[r], Due.of("rule " + rules[r] + ";").rule(6), r);
        }
        String[] forms = {"plain", "cents", "sign"};
        for (int f = 0; f < forms.length; f++) {
            Due.is("form " + forms[f], Due.of("form " + forms[f] + ";").rule(7), f);
        }
        Due.is("width 1", Due.of("width 1;").rule(2), 1);
        Due.is("width 24", Due.of("width 0024;").rule(2), 24);
        Due.is("need 1", Due.of("need1;").rule(3), 1);
        Due.is("need 24", Due.of("need 24;").rule(3), 24);
        SlidingRanks x = Due.of("part 0 1;need 2 ; width  3; put 1;put 2 ;");
        Due.is("p 0", x.rule(4), 0);
        Due.is("q 1", x.rule(5), 1);
        Due.is("need 2", x.rule(3), 2);
        Due.is("width 3", x.rule(2), 3);
        Due.is("two lines of readings", x.rule(0), 2);
        x = Due.of("part 100 100;");
        Due.is("p 100", x.rule(4), 100);
        Due.is("q 100", x.rule(5), 100);
    }

    private static void promise4Readings() {
        SlidingRanks x = Due.of("put 0 -0 9999.99 -9999.99 1.5 1.05 1.50 -0.07 -0.7 miss 12 . 3 - 4miss0012 8.0 8.00;");
        int[] want = {0, 0, 999999, -999999, 150, 105, 150, -7, -70, NOTHING, 1230, -400, NOTHING, 1200, 800, 800};
        Due.is("readings", x.rule(0), want.length);
        for (int t = 0; t < want.length; t++) {
            Due.is("reading(" + t + ")", x.reading(t), want[t]);
        }
        Due.is("96 readings", Due.text(x, "put" + " 1".repeat(96) + ";"), 96);
    }

    private static void fault(String text, int fault, int place) {
        SlidingRanks x = Due.of("width 3;put 5;");
        Due.is("text " + text, Due.text(x, text), -10 - place);
        Due.is("fault of " + text, x.fault(), fault);
        Due.is("width stays: " + text, x.rule(2), 3);
        Due.is("readings stay: " + text, x.rule(0), 1);
    }

    private static void promise4And5Faults() {
        String full = "put" + " 1".repeat(96);
        fault("$", 1, 0);
        fault("\0", 1, 0);
        fault("put 1;\0", 1, 6);
        fault("{", 1, 0);
        fault("`", 1, 0);
        fault("/", 1, 0);
        fault(":", 1, 0);
        fault("z", 2, 0);
        fault("putz 1;", 2, 0);
        fault("aput 1;", 2, 0);
        fault("put 1 +2;", 1, 6);
        fault("put 1;\n", 1, 6);
        fault("Put 1;", 1, 0);
        fault("put 12345;", 1, 4);
        fault("put 1.00000;", 1, 6);
        fault("width 25$;", 3, 6);
        fault("width 2$;", 1, 7);
        fault("width 00024;", 1, 6);
        fault("foo $", 2, 0);
        fault("widths 3;", 2, 0);
        fault("widt 3;", 2, 0);
        fault("miss;", 2, 0);
        fault(";", 2, 0);
        fault("5;", 2, 0);
        fault("width;", 2, 5);
        fault("width -3;", 2, 6);
        fault("width 3", 2, 7);
        fault("width 3  ", 2, 9);
        fault("width", 2, 5);
        fault("width 3 4;", 2, 8);
        fault("width 3.5;", 2, 7);
        fault("part 1;", 2, 6);
        fault("part 1 2 3;", 2, 9);
        fault("rule plain;", 2, 5);
        fault("rule 0;", 2, 5);
        fault("rule lo;", 2, 5);
        fault("rule lows;", 2, 5);
        fault("form low;", 2, 5);
        fault("form ;", 2, 5);
        fault("put", 2, 3);
        fault("put ;", 2, 4);
        fault("put .5;", 2, 4);
        fault("put 1.;", 2, 6);
        fault("put 1.-5;", 2, 6);
        fault("put 1.miss;", 2, 6);
        fault("put 1.5.5;", 2, 7);
        fault("put --1;", 2, 5);
        fault("put -miss;", 2, 5);
        fault("put -;", 2, 5);
        fault("put miss.5;", 2, 8);
        fault("put missmiss;", 2, 4);
        fault("put 1 low;", 2, 6);
        fault("put 1", 2, 5);
        fault("put 1 width 3;", 2, 6);
        fault("width 0;", 3, 6);
        fault("width 25;", 3, 6);
        fault("need 0;", 3, 5);
        fault("need 25;", 3, 5);
        fault("part 101 100;", 3, 5);
        fault("part 0 0;", 3, 7);
        fault("part 3 2;", 3, 7);
        fault("part 3 101;", 3, 7);
        fault("put 1.005;", 3, 6);
        fault("put 1.0000;", 3, 6);
        fault("width 3;put 1;width 3;", 4, 14);
        fault("need 3;need $", 4, 7);
        fault("part 1 2;part 1 2;", 4, 9);
        fault("rule low;rule bad;", 4, 9);
        fault("form sign;form sign;", 4, 10);
        fault(full + " 1;", 5, 196);
        fault(full + " miss;", 5, 196);
        fault(full + " - 1;", 5, 196);
        fault(full + " -;", 5, 196);
        fault(full + " 1.234;", 5, 196);
        fault(full + ";put 1;", 5, 200);
        fault(full + " low;", 2, 196);
        fault(full + " 12345;", 1, 196);
        fault(full + ".;", 2, 196);
    }

    private static void promise5() {
        SlidingRanks x = new SlidingRanks();
        Due.text(x, "width 99;");
        Due.is("fault()", x.fault(), 3);
        Due.feed(x, "put 1");
        Due.is("fault() stays until the next text()", x.fault(), 3);
        x.end(0);
        Due.text(x, "put 1;");
        Due.is("fault() of a taken text", x.fault(), 0);
    }

    private static void promise6() {
        SlidingRanks x = Due.of(TOLD + "part 3 8;rule near;form cents;");
        int[] want = {12, 4, 4, 2, 3, 8, 2, 1, 9};
        for (int what = 0; what < want.length; what++) {
            Due.is("rule(" + what + ")", x.rule(what), want[what]);
        }
        Due.is("rule(-1)", x.rule(-1), BAD);
        Due.is("rule(9)", x.rule(9), BAD);
        Due.is("rule least", x.rule(LEAST), BAD);
        x = Due.of("put miss miss 1 miss miss;width 2;");
        Due.is("a row of none has no result", x.rule(8), 2);
    }

    private static void promise7() {
        SlidingRanks x = Due.of(TOLD);
        int[] want = {150, -200, NOTHING, 725, 300, 300, -5, NOTHING, NOTHING, NOTHING, 1200, 410};
        for (int t = 0; t < want.length; t++) {
            Due.is("reading(" + t + ")", x.reading(t), want[t]);
        }
        Due.is("reading(-1)", x.reading(-1), NOTHING);
        Due.is("reading(12)", x.reading(12), NOTHING);
        Due.is("reading least", x.reading(LEAST), NOTHING);
        Due.is("reading greatest", x.reading(GREATEST), NOTHING);
    }

    private static void promise8() {
        SlidingRanks x = Due.of(TOLD + "part 2 5;");
        int[] many = {1, 2, 2, 3, 3, 3, 4, 3, 2, 1, 1, 2};
        int[] whole = {NONE, 0, 0, 0, 0, 0, 1, 0, 0, NONE, NONE, 0};
        int[] rest = {NONE, 2, 2, 4, 4, 4, 1, 4, 2, NONE, NONE, 2};
        for (int t = 0; t < many.length; t++) {
            Due.is("row(" + t + ", 0)", x.row(t, 0), many[t]);
            Due.is("row(" + t + ", 1)", x.row(t, 1), whole[t]);
            Due.is("row(" + t + ", 2)", x.row(t, 2), rest[t]);
        }
        Due.is("row(0, 3)", x.row(0, 3), BAD);
        Due.is("row(0, -1)", x.row(0, -1), BAD);
        Due.is("row(-1, 0)", x.row(-1, 0), BAD);
        Due.is("row(12, 0)", x.row(12, 0), BAD);
        x = Due.of("put miss;");
        Due.is("a row of none", x.row(0, 0), 0);
        Due.is("its place", x.row(0, 1), NONE);
        Due.is("its rest", x.row(0, 2), NONE);
    }

    private static void promise9() {
        SlidingRanks x = Due.of(TOLD);
        int[] want = {-5, 300, 300, 725};
        for (int i = 0; i < want.length; i++) {
            Due.is("item(6, " + i + ")", x.item(6, i), want[i]);
        }
        Due.is("item(6, 4)", x.item(6, 4), NOTHING);
        Due.is("item(6, -1)", x.item(6, -1), NOTHING);
        Due.is("item(6, greatest)", x.item(6, GREATEST), NOTHING);
        Due.is("item(-1, 0)", x.item(-1, 0), NOTHING);
        Due.is("item(12, 0)", x.item(12, 0), NOTHING);
        Due.is("no need of NEED", x.item(0, 0), 150);
        x = new SlidingRanks();
        x.width(24);
        for (int v = 30; v > 0; v--) {
            x.add(v);
        }
        for (int i = 0; i < 24; i++) {
            Due.is("the widest row, " + i, x.item(29, i), i + 1);
            Due.is("from 0, " + i, x.item(3, i), i < 4 ? i + 27 : NOTHING);
        }
    }

    private static void promise10() {
        SlidingRanks x = Due.of(TOLD + "rule mean;");
        Due.is("above", x.result(1, 0), -50);
        Due.is("below", x.result(1, 1), 2);
        Due.is("round", x.result(1, 2), -25);
        for (int what = 0; what < 3; what++) {
            Due.is("too few", x.result(0, what), NOTHING);
            Due.is("no such reading", x.result(12, what), NOTHING);
            Due.is("below all readings", x.result(-1, what), NOTHING);
        }
        Due.is("result(1, 3)", x.result(1, 3), NOTHING);
        Due.is("result(1, -1)", x.result(1, -1), NOTHING);
        x = Due.of("put miss 1;width 1;");
        Due.is("a row of none", x.result(0, 0), NOTHING);
        Due.is("a row of one", x.result(1, 0), 100);
    }

    /** A row of 10, 20, 40, 80 by some parts: each rule's ABOVE. */
    private static void promise10Rules() {
        int[][] parts = {{0, 1}, {1, 1}, {1, 2}, {1, 3}, {1, 4}, {3, 4}, {99, 100}};
        int[][] above = {
            {10, 10, 10, 20, 10}, {80, 80, 80, 160, 80}, {20, 40, 40, 60, 60}, {20, 20, 20, 40, 60},
            {10, 20, 20, 30, 70}, {40, 80, 40, 120, 200}, {40, 80, 80, 120, 7880}};
        SlidingRanks x = Due.of("put 0.4 0.1 0.8 0.2;");
        for (int i = 0; i < parts.length; i++) {
            x.part(parts[i][0], parts[i][1]);
            int[] below = {1, 1, 1, 2, parts[i][1]};
            for (int r = 0; r < 5; r++) {
                x.choose(r);
                String what = "part " + parts[i][0] + " of " + parts[i][1] + ", rule " + r;
                Due.is(what + ": above", x.result(3, 0), above[i][r]);
                Due.is(what + ": below", x.result(3, 1), below[r]);
            }
        }
    }

    private static void promise10Near() {
        SlidingRanks x = Due.of("rule near;put 0.01 0.02 0.03 0.04 0.05 0.06;width 6;");
        Due.is("half between 0 and 1: the even", x.result(1, 0), 1);
        Due.is("half between 1 and 2: the even", x.result(3, 0), 3);
        Due.is("half between 2 and 3: the even", x.result(5, 0), 3);
        x.part(2, 5);
        Due.is("less than half of the way", x.result(1, 0), 1);
        x.part(3, 5);
        Due.is("more than half of the way", x.result(1, 0), 2);
        x.part(1, 3);
        Due.is("two thirds of the way", x.result(5, 0), 3);
    }

    private static void promise10Round() {
        int[][] rounds = {{1, 2, 2}, {-1, -2, -2}, {0, 1, 1}, {0, -1, -1}, {2, 2, 2}, {-1, 1, 0}, {999999, 999998, 999999}};
        for (int[] round : rounds) {
            SlidingRanks x = new SlidingRanks();
            x.choose(3);
            x.add(round[0]);
            x.add(round[1]);
            Due.is("round of " + round[0] + " and " + round[1] + " by 2", x.result(1, 2), round[2]);
        }
        SlidingRanks x = Due.of("rule line;part 1 3;put 0 0.01;put -0.01;width 2;");
        Due.is("a third", x.result(1, 2), 0);
        Due.is("two thirds below 0: above", x.result(2, 0), -1);
        x.part(2, 3);
        Due.is("two thirds", x.result(1, 2), 1);
        x.part(1, 3);
        x.set(0, -1);
        x.set(1, 0);
        Due.is("two thirds below 0", x.result(1, 2), -1);
        x.part(2, 3);
        Due.is("a third below 0", x.result(1, 2), 0);
        x = Due.of("rule line;part 100 100;put 9999.99 9999.99;");
        Due.is("the greatest above", x.result(1, 0), 99999900);
        x = Due.of("rule line;part 50 100;put -9999.99 -9999.99;");
        Due.is("the least above", x.result(1, 0), -99999900);
        Due.is("the least round", x.result(1, 2), -999999);
    }

    private static void promise11() {
        SlidingRanks x = Due.of(TOLD);
        Due.is("less than 300", x.rank(6, 300, 0), 1);
        Due.is("are 300", x.rank(6, 300, 1), 2);
        Due.is("less than 301", x.rank(6, 301, 0), 3);
        Due.is("are 301", x.rank(6, 301, 1), 0);
        Due.is("less than -5", x.rank(6, -5, 0), 0);
        Due.is("are -5, the first", x.rank(6, -5, 1), 1);
        Due.is("are 725, the last", x.rank(6, 725, 1), 1);
        Due.is("are 300 of another row", x.rank(0, 300, 1), 0);
        Due.is("less than the greatest", x.rank(6, GREATEST, 0), 4);
        Due.is("less than the least", x.rank(6, LEAST, 0), 0);
        Due.is("missing ones are not there", x.rank(8, NOTHING, 1), 0);
        Due.is("rank(6, 300, 2)", x.rank(6, 300, 2), BAD);
        Due.is("rank(6, 300, -1)", x.rank(6, 300, -1), BAD);
        Due.is("rank(12, 300, 0)", x.rank(12, 300, 0), BAD);
        Due.is("rank(-1, 300, 0)", x.rank(-1, 300, 0), BAD);
    }

    private static void promise12() {
        SlidingRanks x = Due.of(TOLD);
        Due.isShown(x, 0, "none");
        Due.isShown(x, 1, "-2");
        Due.is("behind the last byte", x.shown(1, 2), NONE);
        Due.is("far behind it", x.shown(1, GREATEST), NONE);
        Due.is("behind none", x.shown(0, 4), NONE);
        Due.is("shown(1, -1)", x.shown(1, -1), BAD);
        Due.is("shown(-1, 0)", x.shown(-1, 0), BAD);
        Due.is("shown(12, 0)", x.shown(12, 0), BAD);
        Due.is("shown(12, 99)", x.shown(12, 99), BAD);
    }

    private static void promise12Forms() {
        int[] values = {0, 1, -1, 10, -10, 99, 100, -100, 105, 150, 1000, 12345, -98765, 999999, -999999, 100000};
        String[] plain = {"0", "0.01", "-0.01", "0.1", "-0.1", "0.99", "1", "-1", "1.05", "1.5", "10", "123.45",
            "-987.65", "9999.99", "-9999.99", "1000"};
        String[] cents = {"0.00", "0.01", "-0.01", "0.10", "-0.10", "0.99", "1.00", "-1.00", "1.05", "1.50", "10.00",
            "123.45", "-987.65", "9999.99", "-9999.99", "1000.00"};
        SlidingRanks x = new SlidingRanks();
        x.width(1);
        for (int v : values) {
            x.add(v);
        }
        for (int t = 0; t < values.length; t++) {
            x.form(0);
            Due.isShown(x, t, plain[t]);
            x.form(1);
            Due.isShown(x, t, cents[t]);
            x.form(2);
            Due.isShown(x, t, values[t] > 0 ? "+" + plain[t] : plain[t]);
        }
        x = Due.of("rule line;part 1 3;form sign;put 0 0.01;");
        Due.isShown(x, 1, "0");
        x.set(1, -1);
        x.part(2, 3);
        Due.isShown(x, 1, "0");
        x.form(1);
        Due.isShown(x, 1, "0.00");
    }

    private static void promise13() {
        SlidingRanks x = Due.of(TOLD);
        int[] middle = {150, -200, -200, 150, 300, 300, 300, 300, -5, -5, 1200, 410};
        int[] spread = {0, 0, 0, 350, 425, 0, 0, 0, 0, 0, 0, 0};
        for (int t = 0; t < middle.length; t++) {
            Due.is("middle(" + t + ", 0)", x.middle(t, 0), middle[t]);
            Due.is("middle(" + t + ", 1)", x.middle(t, 1), spread[t]);
        }
        Due.is("middle(0, 2)", x.middle(0, 2), NOTHING);
        Due.is("middle(0, -1)", x.middle(0, -1), NOTHING);
        Due.is("middle(-1, 0)", x.middle(-1, 0), NOTHING);
        Due.is("middle(12, 1)", x.middle(12, 1), NOTHING);
        x = Due.of("put miss;");
        Due.is("middle of none", x.middle(0, 0), NOTHING);
        Due.is("spread of none", x.middle(0, 1), NOTHING);
        x = Due.of("width 7;put 0.1 0.11 0.12 0.2 0.5 0.6 0.9;");
        Due.is("middle of seven", x.middle(6, 0), 20);
        Due.is("spread of seven: 0 8 9 10 30 40 70", x.middle(6, 1), 10);
        x = Due.of("width 5;put 1 2 3 3.1 3.3;");
        Due.is("spread of five: 0 10 30 100 200", x.middle(4, 1), 30);
        x = Due.of("width 5;put 2.7 2.9 3 9 8;");
        Due.is("spread of five: 0 10 30 500 600", x.middle(4, 1), 30);
        x = Due.of("width 5;put -9999.99 -9999.99 9999.99 9999.99 -9999.99;");
        Due.is("spread of three below", x.middle(4, 1), 0);
        Due.is("the part and rule are not asked", Due.of("part 1 1;rule high;put 1 2 3;").middle(2, 0), 200);
    }

    private static void promise14() {
        SlidingRanks x = Due.of("put 0 0.1 0.2 0.4;width 4;need 24;");
        Due.is("middle", x.middle(3, 0), 10);
        Due.is("spread", x.middle(3, 1), 10);
        Due.is("30 is more than 1 times 10", x.far(3, 1), 1);
        Due.is("30 is more than 2 times 10", x.far(3, 2), 1);
        Due.is("30 is not more than 3 times 10", x.far(3, 3), 0);
        Due.is("far(3, 20)", x.far(3, 20), 0);
        x.set(3, 211);
        Due.is("201 is more than 20 times 10", x.far(3, 20), 1);
        x.set(3, 210);
        Due.is("200 is not more than 20 times 10", x.far(3, 20), 0);
        Due.is("far(3, 0)", x.far(3, 0), BAD);
        Due.is("far(3, 21)", x.far(3, 21), BAD);
        Due.is("far(3, -1)", x.far(3, -1), BAD);
        Due.is("far(4, 1)", x.far(4, 1), BAD);
        Due.is("far(-1, 1)", x.far(-1, 1), BAD);
        x.lose(3);
        Due.is("a missing one is not far", x.far(3, 1), 0);
        Due.is("a missing one, bad", x.far(3, 21), BAD);
        x = Due.of("put 5 5 5 -5;");
        Due.is("far below", x.far(3, 20), 1);
        x = Due.of("put -9999.99 9999.99;");
        Due.is("as far as may be", x.far(1, 20), 1);
    }

    private static void promise15() {
        SlidingRanks x = Due.of(TOLD);
        Due.is("fars(1)", x.fars(1), 2);
        Due.is("fars(20)", x.fars(20), 1);
        Due.is("fars(0)", x.fars(0), BAD);
        Due.is("fars(21)", x.fars(21), BAD);
        Due.is("fars(-1)", x.fars(-1), BAD);
        Due.is("fars of none", new SlidingRanks().fars(1), 0);
        for (int k = 1; k <= 20; k++) {
            x = new SlidingRanks();
            x.drift(3, 48);
            x.drift(4, 48);
            int far = 0;
            for (int t = 0; t < 96; t++) {
                far += x.far(t, k);
            }
            Due.is("fars(" + k + ") as by far", x.fars(k), far);
        }
    }

    private static void promise16() {
        SlidingRanks x = Due.of("width 1;put 1 2 miss 2 2.01 2 0 3 miss;");
        int[] above199 = {5, 1, 7, 3};
        int[] above200 = {2, 4, 7, 1};
        int[] above300 = {0, NONE, NONE, 0};
        int[] aboveLeast = {7, 0, 7, 5};
        for (int what = 0; what < 4; what++) {
            Due.is("above(199, " + what + ")", x.above(199, what), above199[what]);
            Due.is("above(200, " + what + ")", x.above(200, what), above200[what]);
            Due.is("above(300, " + what + ")", x.above(300, what), above300[what]);
            Due.is("above(least, " + what + ")", x.above(LEAST, what), aboveLeast[what]);
            Due.is("above(greatest, " + what + ")", x.above(GREATEST, what), above300[what]);
            Due.is("above of none", new SlidingRanks().above(0, what), above300[what]);
        }
        Due.is("above(0, 4)", x.above(0, 4), BAD);
        Due.is("above(0, -1)", x.above(0, -1), BAD);
        x = Due.of("rule line;part 1 100;put 1 1.01;");
        Due.is("a hundredth of a hundredth above", x.above(100, 1), 1);
        Due.is("below the next", x.above(101, 0), 0);
        x.set(0, -101);
        x.set(1, -100);
        Due.is("above, below 0", x.above(-101, 0), 1);
        x.choose(3);
        Due.is("half above, below 0", x.above(-101, 1), 1);
        Due.is("half below, below 0", x.above(-100, 0), 0);
    }

    private static void promise17() {
        SlidingRanks x = Due.of("width 1;put miss 2 1 3 1 3 miss;");
        Due.is("the least", x.most(0), 2);
        Due.is("the greatest", x.most(1), 3);
        Due.is("most(2)", x.most(2), BAD);
        Due.is("most(-1)", x.most(-1), BAD);
        x.need(2);
        Due.is("no results: the least", x.most(0), NONE);
        Due.is("no results: the greatest", x.most(1), NONE);
        Due.is("no results, bad", x.most(2), BAD);
        x = Due.of("width 1;put -1 -2 -1;");
        Due.is("the least below 0", x.most(0), 1);
        Due.is("the greatest below 0", x.most(1), 0);
        x = Due.of("width 2;need 2;rule line;part 1 100;put 1 1.01 1 1.02;");
        Due.is("not by round: the least", x.most(0), 1);
        x = Due.of("width 2;need 2;rule line;part 1 100;put 1.01 1 1.02;");
        Due.is("not by round: the greatest", x.most(1), 2);
    }

    private static void promise18() {
        SlidingRanks x = new SlidingRanks();
        Due.is("add(999999)", x.add(999999), 1);
        Due.is("add(-999999)", x.add(-999999), 2);
        Due.is("add(1000000)", x.add(1000000), BAD);
        Due.is("add(-1000000)", x.add(-1000000), BAD);
        Due.is("add(NOTHING)", x.add(NOTHING), BAD);
        Due.is("reading(0)", x.reading(0), 999999);
        Due.is("reading(1)", x.reading(1), -999999);
        for (int n = 3; n <= 96; n++) {
            Due.is("add " + n, x.add(n), n);
        }
        Due.is("the 97th", x.add(0), FULL);
        Due.is("the 97th, bad", x.add(1000000), BAD);
        Due.is("readings", x.rule(0), 96);
        Due.is("the last", x.reading(95), 96);
    }

    private static void promise19() {
        SlidingRanks x = new SlidingRanks();
        for (int n = 1; n <= 96; n++) {
            Due.is("miss " + n, x.miss(), n);
        }
        Due.is("the 97th", x.miss(), FULL);
        Due.is("missing", x.rule(1), 96);
        Due.is("reading(95)", x.reading(95), NOTHING);
    }

    private static void promise20() {
        SlidingRanks x = Due.of("put 1 miss;");
        Due.is("set(0, 7)", x.set(0, 7), 0);
        Due.is("set(1, -999999)", x.set(1, -999999), 1);
        Due.is("reading(0)", x.reading(0), 7);
        Due.is("reading(1)", x.reading(1), -999999);
        Due.is("set(1, 999999)", x.set(1, 999999), 0);
        Due.is("set(1, 1000000)", x.set(1, 1000000), BAD);
        Due.is("set(1, -1000000)", x.set(1, -1000000), BAD);
        Due.is("set(1, NOTHING)", x.set(1, NOTHING), BAD);
        Due.is("set(2, 0)", x.set(2, 0), BAD);
        Due.is("set(-1, 0)", x.set(-1, 0), BAD);
        Due.is("what is refused changes nothing", x.reading(1), 999999);
        Due.is("none is missing", x.rule(1), 0);
    }

    private static void promise21() {
        SlidingRanks x = Due.of("put 1 2;");
        Due.is("lose(1)", x.lose(1), 0);
        Due.is("lose(1) again", x.lose(1), 1);
        Due.is("reading(1)", x.reading(1), NOTHING);
        Due.is("reading(0)", x.reading(0), 100);
        Due.is("lose(2)", x.lose(2), BAD);
        Due.is("lose(-1)", x.lose(-1), BAD);
        Due.is("readings", x.rule(0), 2);
    }

    private static void promise22() {
        SlidingRanks x = Due.of("put 1 miss 3 4;");
        Due.is("drop(5)", x.drop(5), BAD);
        Due.is("drop(-1)", x.drop(-1), BAD);
        Due.is("drop(0)", x.drop(0), 4);
        Due.is("drop(1)", x.drop(1), 3);
        Due.is("reading(0)", x.reading(0), NOTHING);
        Due.is("reading(1)", x.reading(1), 300);
        Due.is("reading(2)", x.reading(2), 400);
        Due.is("reading(3)", x.reading(3), NOTHING);
        Due.is("the row has what is left", x.row(2, 0), 2);
        Due.is("drop(3)", x.drop(3), 0);
        Due.is("drop(1) of none", x.drop(1), BAD);
        Due.is("drop(0) of none", x.drop(0), 0);
        x.drift(1, 48);
        x.drift(1, 48);
        Due.is("drop all of 96", x.drop(96), 0);
    }

    private static void promise23() {
        SlidingRanks x = Due.of("put 1 2 3 4 5 6;");
        Due.is("width(1)", x.width(1), 5);
        Due.is("row of 1", x.row(5, 0), 1);
        Due.is("width(24)", x.width(24), 1);
        Due.is("row of 6", x.row(5, 0), 6);
        Due.is("width(0)", x.width(0), BAD);
        Due.is("width(25)", x.width(25), BAD);
        Due.is("width(-1)", x.width(-1), BAD);
        Due.is("width(2)", x.width(2), 24);
        Due.is("row of 2", x.row(5, 0), 2);
    }

    private static void promise24() {
        SlidingRanks x = Due.of("put 1 2;");
        Due.is("need(2)", x.need(2), 1);
        Due.is("too few", x.result(0, 0), NOTHING);
        Due.is("enough", x.result(1, 0), 100);
        Due.is("need(24)", x.need(24), 2);
        Due.is("need(0)", x.need(0), BAD);
        Due.is("need(25)", x.need(25), BAD);
        Due.is("need(-1)", x.need(-1), BAD);
        Due.is("need(1)", x.need(1), 24);
    }

    private static void promise25() {
        SlidingRanks x = Due.of("put 1 2;");
        Due.is("part(100, 100)", x.part(100, 100), 1002);
        Due.is("part(0, 1)", x.part(0, 1), 100100);
        Due.is("part(3, 7)", x.part(3, 7), 1);
        Due.is("part(2, 1)", x.part(2, 1), BAD);
        Due.is("part(0, 0)", x.part(0, 0), BAD);
        Due.is("part(-1, 2)", x.part(-1, 2), BAD);
        Due.is("part(1, 101)", x.part(1, 101), BAD);
        Due.is("part(-2, -1)", x.part(-2, -1), BAD);
        Due.is("p", x.rule(4), 3);
        Due.is("q", x.rule(5), 7);
        Due.is("part(1, 1)", x.part(1, 1), 3007);
        Due.is("the greatest", x.result(1, 0), 200);
    }

    private static void promise26() {
        SlidingRanks x = new SlidingRanks();
        for (int r = 1; r <= 4; r++) {
            Due.is("choose(" + r + ")", x.choose(r), r - 1);
        }
        Due.is("choose(5)", x.choose(5), BAD);
        Due.is("choose(-1)", x.choose(-1), BAD);
        Due.is("choose(0)", x.choose(0), 4);
        Due.is("rule(6)", x.rule(6), 0);
    }

    private static void promise27() {
        SlidingRanks x = new SlidingRanks();
        Due.is("form(1)", x.form(1), 0);
        Due.is("form(2)", x.form(2), 1);
        Due.is("form(3)", x.form(3), BAD);
        Due.is("form(-1)", x.form(-1), BAD);
        Due.is("form(0)", x.form(0), 2);
        Due.is("rule(7)", x.rule(7), 0);
    }

    private static void promise28() {
        SlidingRanks x = new SlidingRanks();
        Due.is("drift(7, 0)", x.drift(7, 0), BAD);
        Due.is("drift(7, 49)", x.drift(7, 49), BAD);
        Due.is("drift(7, -1)", x.drift(7, -1), BAD);
        x.add(999900);
        x.miss();
        Due.is("drift(7, 48)", x.drift(7, 48), 48);
        long seed = 7;
        int ahead = 999900;
        for (int t = 2; t < 50; t++) {
            seed = (seed * 1103515245L + 12345L) & 0xFFFFFFFFL;
            int got = (int) (seed >> 16 & 0x7FFF);
            if (got % 9 == 0) {
                Due.is("missing: reading(" + t + ")", x.reading(t), NOTHING);
            } else {
                ahead = Math.max(-999999, Math.min(999999, ahead + got / 16 % 401 - 200));
                Due.is("reading(" + t + ")", x.reading(t), ahead);
            }
        }
        Due.is("drift least", x.drift(LEAST, 45), 45);
        Due.is("drift where one has room", x.drift(GREATEST, 48), 1);
        Due.is("drift where none has room", x.drift(1, 1), 0);
        Due.is("drift where none has room, bad", x.drift(1, 49), BAD);
        x.drop(96);
        x.drift(1, 1);
        Due.is("none ahead: got 16838, 1052 modulo 401 is 250, less 200", x.reading(0), 50);
        x.drift(1, 1);
        Due.is("the one just ahead", x.reading(1), 100);
        x.drop(2);
        x.add(-999999);
        int bounded = 0;
        for (int i = 0; i < 30; i++) {
            x.drift(i, 1);
            bounded += x.reading(x.rule(0) - 1) == -999999 ? 1 : 0;
        }
        Due.holds("-999999 at least", bounded > 0);
    }

    private static void promise29() {
        SlidingRanks x = Due.of("put 1;");
        Due.is("keep(1)", x.keep(1), 0);
        Due.is("keep(1) again", x.keep(1), 1);
        Due.is("keep(0)", x.keep(0), 0);
        Due.is("keep(2)", x.keep(2), BAD);
        Due.is("keep(-1)", x.keep(-1), BAD);
        Due.is("images", x.count(0), 2);
        x.add(7);
        x.keep(0);
        x.drop(2);
        Due.is("the newer one", x.back(0), 2);
        Due.is("the older one", x.back(1), 1);
    }

    private static void promise30() {
        SlidingRanks x = Due.of("width 7;need 3;part 2 9;rule line;form sign;put 1 miss 3;");
        x.sheet(0, 0, 3);
        x.keep(0);
        x.set(0, 5);
        x.drop(1);
        x.width(1);
        x.need(1);
        x.part(1, 1);
        x.choose(1);
        x.form(1);
        x.feed(65);
        x.sheet(0, 0, 9);
        Due.is("back(0)", x.back(0), 3);
        int[] want = {3, 1, 7, 3, 2, 9, 4, 2};
        for (int what = 0; what < want.length; what++) {
            Due.is("back: rule(" + what + ")", x.rule(what), want[what]);
        }
        Due.is("reading(0)", x.reading(0), 100);
        Due.is("reading(1)", x.reading(1), NOTHING);
        Due.is("reading(2)", x.reading(2), 300);
        Due.is("the tape stays", x.count(1), 1);
        Due.is("sheets stay", x.count(2), 9);
        x.set(0, 5);
        Due.is("an image is not what is changed behind it", x.back(0), 3);
        Due.is("reading(0) again", x.reading(0), 100);
        Due.is("back(1)", x.back(1), STATE);
        Due.is("back(2)", x.back(2), BAD);
        Due.is("back(-1)", x.back(-1), BAD);
        x.drop(3);
        x.keep(1);
        x.add(1);
        Due.is("an image of none", x.back(1), 0);
    }

    private static void promise31() {
        SlidingRanks x = new SlidingRanks();
        Due.is("sheet(0, 0, 0)", x.sheet(0, 0, 0), 1);
        Due.is("no cells", x.count(2), 0);
        Due.is("sheet(0, 2, 40)", x.sheet(0, 2, 40), 1);
        Due.is("40 cells", x.count(2), 40);
        x.lay(0, 0, 5);
        Due.is("sheet(0, 2, -1)", x.sheet(0, 2, -1), -14);
        Due.is("sheet(0, 2, least)", x.sheet(0, 2, LEAST), -14);
        Due.is("sheet(0, 2, 41)", x.sheet(0, 2, 41), BAD);
        Due.is("sheet(0, 3, 1)", x.sheet(0, 3, 1), BAD);
        Due.is("sheet(0, -1, 1)", x.sheet(0, -1, 1), BAD);
        Due.is("sheet(4, 0, 1)", x.sheet(4, 0, 1), BAD);
        Due.is("sheet(-1, 0, 1)", x.sheet(-1, 0, 1), BAD);
        Due.is("sheet(4, 0, -1)", x.sheet(4, 0, -1), BAD);
        Due.is("sheet(0, 3, -1)", x.sheet(0, 3, -1), BAD);
        x.read(0, 2, 0, 1);
        Due.is("the sheet stays", x.reading(0), 5);
        x.sheet(0, 2, 2);
        x.read(0, 2, 0, 1);
        Due.is("a new row of 0", x.reading(1), 0);
        Due.is("sheet(3, 1, 1)", x.sheet(3, 1, 1), 1);
    }

    private static void promise32() {
        SlidingRanks x = new SlidingRanks();
        Due.is("lay of nothing", x.lay(3, 0, 1), -11);
        Due.is("lay of nothing, no index", x.lay(3, -1, 1), -11);
        x.sheet(0, 0, 5);
        x.sheet(1, 1, 5);
        x.sheet(2, 2, 5);
        int[] values = {-1, 200, 40000, 65536 + 300, -999999};
        for (int k = 0; k < 3; k++) {
            for (int i = 0; i < values.length; i++) {
                Due.is("lay", x.lay(k, i, values[i]), 1);
            }
            x.read(k, k, 0, 5);
        }
        int[] want = {-1, -56, 64, 44, -63, -1, 200, -25536, 300, -16959, -1, 200, 40000, 65836, -999999};
        for (int t = 0; t < want.length; t++) {
            Due.is("cell " + t % 5 + " of sheet " + t / 5, x.reading(t), want[t]);
        }
        Due.is("lay(0, 5, 1)", x.lay(0, 5, 1), -12);
        Due.is("lay(0, -1, 1)", x.lay(0, -1, 1), -12);
        Due.is("lay(0, least, 1)", x.lay(0, LEAST, 1), -12);
        Due.is("lay(4, 0, 1)", x.lay(4, 0, 1), BAD);
        Due.is("lay(-1, 0, 1)", x.lay(-1, 0, 1), BAD);
        x.sheet(3, 0, 0);
        Due.is("lay of no cells", x.lay(3, 0, 1), -12);
    }

    private static void read(SlidingRanks x, int[] call, int came, int fault) {
        String name = "read(" + call[0] + ", " + call[1] + ", " + call[2] + ", " + call[3] + ")";
        int had = x.rule(0);
        Due.is(name, x.read(call[0], call[1], call[2], call[3]), came);
        Due.is(name + ": torn()", x.torn(), fault);
        Due.is(name + ": readings", x.rule(0), had + Math.max(0, came));
    }

    private static void promise33() {
        SlidingRanks x = Due.of("put 1;");
        x.sheet(1, 2, 3);
        x.lay(1, 0, 11);
        x.lay(1, 1, 12);
        x.lay(1, 2, 13);
        read(x, new int[] {1, 2, 0, 3}, 3, 0);
        Due.is("reading(1)", x.reading(1), 11);
        Due.is("reading(3)", x.reading(3), 13);
        read(x, new int[] {1, 2, 1, 40}, 2, 2);
        Due.is("reading(5)", x.reading(5), 13);
        read(x, new int[] {1, 2, 3, 1}, 0, 2);
        read(x, new int[] {1, 2, 0, 0}, 0, 0);
        read(x, new int[] {1, 2, -1, 2}, 0, 2);
        read(x, new int[] {1, 2, LEAST, 2}, 0, 2);
        read(x, new int[] {1, 2, GREATEST, 2}, 0, 2);
        read(x, new int[] {1, 0, 0, 1}, 0, 3);
        read(x, new int[] {1, 1, 9, 1}, 0, 3);
        read(x, new int[] {0, 1, 0, 1}, 0, 1);
        read(x, new int[] {1, 2, 9, 0}, 0, 0);
        x.sheet(0, 0, 0);
        read(x, new int[] {0, 0, 0, 1}, 0, 2);
        read(x, new int[] {4, 0, 0, 1}, BAD, 2);
        read(x, new int[] {-1, 0, 0, 1}, BAD, 2);
        read(x, new int[] {1, 3, 0, 1}, BAD, 2);
        read(x, new int[] {1, -1, 0, 1}, BAD, 2);
        read(x, new int[] {1, 2, 0, -1}, BAD, 2);
        read(x, new int[] {1, 2, 0, 41}, BAD, 2);
    }

    private static void promise33Refused() {
        SlidingRanks x = Due.of("put 1;");
        x.sheet(1, 2, 4);
        x.lay(1, 2, 1000000);
        read(x, new int[] {1, 2, 0, 2}, 2, 0);
        read(x, new int[] {1, 2, 0, 3}, -22, 0);
        read(x, new int[] {1, 2, 1, 40}, -21, 0);
        read(x, new int[] {1, 2, 2, 1}, -20, 0);
        read(x, new int[] {1, 2, 3, 2}, 1, 2);
        x.lay(1, 2, -1000000);
        read(x, new int[] {1, 2, 0, 3}, -22, 2);
        x.lay(1, 2, -999999);
        read(x, new int[] {1, 2, 0, 4}, 4, 0);
        while (x.rule(0) < 94) {
            x.miss();
        }
        read(x, new int[] {1, 2, 0, 3}, -22, 0);
        read(x, new int[] {1, 2, 2, 3}, 2, 2);
        read(x, new int[] {1, 2, 0, 1}, -20, 2);
        read(x, new int[] {1, 2, 4, 1}, 0, 2);
        read(x, new int[] {0, 2, 4, 1}, 0, 1);
        read(x, new int[] {1, 2, 0, 0}, 0, 0);
    }

    private static void promise34() {
        SlidingRanks x = new SlidingRanks();
        Due.is("torn() at first", x.torn(), 0);
        x.read(0, 0, 0, 1);
        Due.is("torn() of nothing", x.torn(), 1);
        Due.is("torn() again", x.torn(), 1);
        x.lay(0, 0, 0);
        x.sheet(0, 0, -1);
        Due.is("torn() tells of read() alone", x.torn(), 1);
        x.sheet(0, 2, 1);
        x.lay(0, 0, 1000000);
        x.read(0, 2, 0, 1);
        Due.is("a refused read() has no end", x.torn(), 1);
        x.read(0, 2, 0, 41);
        Due.is("a bad read() has no end", x.torn(), 1);
        x.lay(0, 0, 0);
        x.read(0, 2, 0, 1);
        Due.is("torn() of a whole one", x.torn(), 0);
    }

    private static void promise35() {
        SlidingRanks x = Due.of(TOLD);
        Due.is("images", x.count(0), 0);
        x.keep(1);
        Due.is("one image", x.count(0), 1);
        Due.feed(x, "abc");
        Due.is("bytes", x.count(1), 3);
        x.sheet(1, 0, 3);
        Due.is("sheet 0 has nothing", x.count(2), NONE);
        x.sheet(0, 1, 7);
        Due.is("cells", x.count(2), 7);
        for (int form = 0; form < 3; form++) {
            x.form(form);
            int bytes = 0;
            for (int t = 0; t < 12; t++) {
                bytes += Due.shown(x, t).length();
            }
            Due.is("bytes shown, form " + form, x.count(3), bytes);
        }
        x = Due.of("width 1;put 1 miss -2.5;");
        Due.is("1, none, -2.5", x.count(3), 9);
        Due.is("count(4)", x.count(4), BAD);
        Due.is("count(-1)", x.count(-1), BAD);
    }

    /** What goes over all READINGS is the same whatever row was asked for before. */
    private static void scansAfterOtherRows() {
        SlidingRanks x = Due.of("width 2;need 2;put 4 3 9 1 miss 5 5 5 8 1;");
        for (int t = 0; t < 10; t++) {
            String when = " after row(" + t + ", 0)";
            x.row(t, 0);
            Due.is("rule(8)" + when, x.rule(8), 7);
            x.row(t, 0);
            Due.is("most(0)" + when, x.most(0), 3);
            x.row(t, 0);
            Due.is("most(1)" + when, x.most(1), 6);
            x.row(t, 0);
            Due.is("above(300, 0)" + when, x.above(300, 0), 3);
            x.row(t, 0);
            Due.is("fars(1)" + when, x.fars(1), 2);
            x.row(t, 0);
            Due.is("count(3)" + when, x.count(3), 19);
        }
    }

    private static void refusedChangesNothing() {
        SlidingRanks x = Due.of(TOLD + "part 3 8;rule near;form cents;");
        Due.text(x, "width 99;");
        x.keep(1);
        x.sheet(0, 2, 3);
        x.lay(0, 1, 1000000);
        x.read(1, 0, 0, 1);
        x.feed(65);
        String before = Due.all(x);
        int[] wrong = {LEAST, -1000000, -1, 101, 1000000, GREATEST};
        for (int v : wrong) {
            int[] answers = {x.end(v), x.rule(v), x.row(v, 0), x.rank(v, 0, 0), x.shown(v, 0), x.far(v, 1), x.fars(v),
                x.above(0, v), x.most(v), x.set(v, 0), x.lose(v), x.drop(v), x.width(v), x.need(v), x.part(v, v),
                x.choose(v), x.form(v), x.drift(0, v), x.keep(v), x.back(v), x.sheet(v, 0, 1), x.sheet(0, v, 1),
                x.lay(v, 0, 0), x.read(v, 2, 0, 1), x.read(0, v, 0, 1), x.read(0, 2, 0, v), x.count(v)};
            for (int i = 0; i < answers.length; i++) {
                Due.is("wrong call " + i + " with " + v, answers[i], BAD);
            }
        }
        Due.is("feed(128)", x.feed(128), BAD);
        Due.is("add(1000000)", x.add(1000000), BAD);
        Due.is("back(0)", x.back(0), STATE);
        Due.is("sheet(0, 0, -1)", x.sheet(0, 0, -1), -14);
        Due.is("lay(0, 3, 0)", x.lay(0, 3, 0), -12);
        Due.is("read(0, 2, 0, 2)", x.read(0, 2, 0, 2), -21);
        String after = Due.all(x);
        Due.holds("was " + before + ", is " + after, after.equals(before));
    }
}
