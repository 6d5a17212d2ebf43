/** The sentences of THE TAPE, its TOKENS, its lines and their FAULTS, under 'Terms'. */
final class TextSentences {
    private static final int FULL = -3, STATE = -2;
    private static final int NOTHING = 100000000;
    private static final String[][] LINES = {
        {"width", "3", ";"}, {"need", "3", ";"}, {"part", "1", "2", ";"}, {"rule", "low", ";"}, {"form", "sign", ";"},
        {"put", "miss", "-", "1", ".", "2", "7", ";"}};

    private TextSentences() {
    }

    static void run() {
        Sentences.under("Terms");
        bytes();
        tokens();
        grammar();
        parts();
        readings();
        order();
        faults();
        laterFaults();
        taken();
    }

    /** The text is refused by the fault at the place, and what was told stays. */
    private static void refused(String text, int fault, int place) {
        SlidingRanks x = Due.of("width 9;need 8;part 6 7;rule mean;form cents;put 5;");
        Due.is("text " + text, Due.text(x, text), -10 - place);
        Due.is("fault of " + text, x.fault(), fault);
        Due.is("the tape is empty: " + text, x.count(1), 0);
        int[] stays = {1, 0, 9, 8, 6, 7, 3, 1};
        for (int what = 0; what < stays.length; what++) {
            Due.is("rule(" + what + ") stays: " + text, x.rule(what), stays[what]);
        }
        Due.is("READING 0 stays: " + text, x.reading(0), 500);
    }

    private static void told(String text, int... readings) {
        SlidingRanks x = Due.of("width 3;put 5;");
        Due.is("text " + text, Due.text(x, text), readings.length);
        Due.is("fault of " + text, x.fault(), 0);
        for (int t = 0; t < readings.length; t++) {
            Due.is("READING " + t + " of " + text, x.reading(t), readings[t]);
        }
    }

    private static boolean isLetter(int c) {
        return c >= 'a' && c <= 'z';
    }

    private static boolean isFigure(int c) {
        return c >= '0' && c <= '9';
    }

    private static boolean isMark(int c) {
        return c == '-' || c == '.' || c == ';';
    }

    private static void bytes() {
        Sentences.says("THE TAPE has 320 bytes, places from 0.", () -> {
            SlidingRanks x = new SlidingRanks();
            Due.feed(x, " ".repeat(314) + "put 7");
            Due.is("the 320th byte", x.feed(';'), 320);
            Due.is("a 321st byte", x.feed('$'), FULL);
            Due.is("all 320 are read", x.text(), 1);
            Due.is("the READING at its end", x.reading(0), 700);
            refused("$", 1, 0);
            refused(" ".repeat(319) + "$", 1, 319);
            refused("put 1" + " ".repeat(315), 2, 320);
            told(" ".repeat(320));
        });
    }

    private static void tokens() {
        Sentences.says("TOKENS, each as long as may be,", () -> {
            refused("widthwidth 3;", 2, 0);
            refused("widt h 3;", 2, 0);
            refused("put missmiss;", 2, 4);
            refused("rule lowhigh;", 2, 5);
            told("put 1234;", 123400);
            told("put 12 34;", 1200, 3400);
            told("put1;", 100);
            told("put miss1miss;", NOTHING, 100, NOTHING);
            told("put 1.23;", 123);
            refused("put 12345;", 1, 4);
        });
        Sentences.says("blanks (32) between:", () -> {
            told("put1miss-2.5;put3;", 100, NOTHING, -250, 300);
            told("  put  1  miss  -  2  .  5  ;  put  3  ;  ", 100, NOTHING, -250, 300);
            told("   ");
            int[] others = {0, 9, 10, 11, 12, 13, 31, 33, 95, 127};
            for (int c : others) {
                refused("put 1;" + (char) c, 1, 6);
                refused("put" + (char) c + "1;", 1, 3);
            }
        });
        Sentences.says("NAMES (a .. z), NUMBERS (1 to 4 figures), one of - . ;", () -> {
            for (int c = 0; c < 128; c++) {
                String text = String.valueOf((char) c);
                if (c == ' ') {
                    told(text);
                } else {
                    refused(text, isLetter(c) || isFigure(c) || isMark(c) ? 2 : 1, 0);
                }
            }
            for (int c = 0; c < 128; c++) {
                betweenFigures((char) c);
            }
            told("put 1 12 123 1234;", 100, 1200, 12300, 123400);
            told("put 0 00 000 0000;", 0, 0, 0, 0);
            refused("put 00000;", 1, 4);
            refused("put 10000;", 1, 4);
            refused("put 99999999999999999999;", 1, 4);
        });
    }

    private static void betweenFigures(char c) {
        String text = "put 1" + c + "2;";
        if (c == ' ') {
            told(text, 100, 200);
        } else if (isFigure(c)) {
            told(text, 10200 + 1000 * (c - '0'));
        } else if (c == '-') {
            told(text, 100, -200);
        } else if (c == '.') {
            told(text, 120);
        } else if (c == ';') {
            refused(text, 2, 6);
        } else {
            refused(text, isLetter(c) ? 2 : 1, 5);
        }
    }

    /** The first so many TOKENS of a line, each with a blank behind it. */
    private static String start(String[] line, int tokens) {
        StringBuilder start = new StringBuilder();
        for (int i = 0; i < tokens; i++) {
            start.append(line[i]).append(' ');
        }
        return start.toString();
    }

    private static void grammar() {
        Sentences.says("text: { line }", () -> {
            told("");
            told("put 1;", 100);
            told("put 1;width 2;put 2;", 100, 200);
            told("put 1;".repeat(53), filled(53, 100));
            refused(";", 2, 0);
            refused("put 1;;", 2, 6);
            refused("3;", 2, 0);
            refused("-1;", 2, 0);
            refused(". ;", 2, 0);
            refused("low;", 2, 0);
            refused("miss;", 2, 0);
            refused("put 1;2;", 2, 6);
        });
        Sentences.says("line: width N ; | need N ; | part N N ; | rule R ; | form F ; | put X { X } ;", () -> {
            for (String[] line : LINES) {
                String whole = start(line, line.length);
                Due.holds(whole + "is taken", Due.text(new SlidingRanks(), whole) >= 0);
                for (int tokens = 1; tokens < line.length; tokens++) {
                    String cut = start(line, tokens);
                    refused(cut, 2, cut.length());
                    refused(cut.trim(), 2, cut.length() - 1);
                    refused(cut + "x", 2, cut.length());
                    refused(cut + "width 3;", 2, cut.length());
                    refused(cut + "$", 1, cut.length());
                }
                refused(line[0] + ";", 2, line[0].length());
                String tail = start(line, line.length - 1);
                refused(tail + "low;", 2, tail.length());
            }
            refused("width 3 4;", 2, 8);
            refused("width 3-4;", 2, 7);
            refused("width 3.4;", 2, 7);
            refused("width -3;", 2, 6);
            refused("need 3 4;", 2, 7);
            refused("need -3;", 2, 5);
            refused("part 1;", 2, 6);
            refused("part 1-2;", 2, 6);
            refused("part 1.2;", 2, 6);
            refused("part 1 2 3;", 2, 9);
            refused("rule low low;", 2, 9);
            refused("form sign sign;", 2, 10);
            refused("put ;", 2, 4);
            refused("put . 5;", 2, 4);
            refused("put put 5;", 2, 4);
            told("put miss miss;", NOTHING, NOTHING);
        });
        Sentences.says("R: low | high | near | mean | line", () -> {
            String[] rules = {"low", "high", "near", "mean", "line"};
            for (int r = 0; r < rules.length; r++) {
                Due.is(rules[r], Due.of("rule " + rules[r] + ";").rule(6), r);
                refused("form " + rules[r] + ";", 2, 5);
                refused("rule " + rules[r].substring(1) + ";", 2, 5);
                refused("rule " + rules[r] + "s;", 2, 5);
            }
            refused("rule mode;", 2, 5);
            refused("rule plain;", 2, 5);
            refused("rule rule;", 2, 5);
            refused("rule miss;", 2, 5);
            refused("rule 0;", 2, 5);
            refused("rule -;", 2, 5);
        });
        Sentences.says("F: plain | cents | sign", () -> {
            String[] forms = {"plain", "cents", "sign"};
            for (int f = 0; f < forms.length; f++) {
                Due.is(forms[f], Due.of("form " + forms[f] + ";").rule(7), f);
                refused("rule " + forms[f] + ";", 2, 5);
                refused("form " + forms[f].substring(1) + ";", 2, 5);
                refused("form " + forms[f] + "s;", 2, 5);
            }
            refused("form form;", 2, 5);
            refused("form miss;", 2, 5);
            refused("form 1;", 2, 5);
            refused("form .;", 2, 5);
        });
        Sentences.says("X: miss | [ - ] N [ . N ]", () -> {
            told("put miss;", NOTHING);
            told("put 7;", 700);
            told("put -7;", -700);
            told("put 7.5;", 750);
            told("put -7.5;", -750);
            told("put 7-5;", 700, -500);
            told("put 7.5-5.5miss;", 750, -550, NOTHING);
            refused("put --7;", 2, 5);
            refused("put -miss;", 2, 5);
            refused("put -.5;", 2, 5);
            refused("put .5;", 2, 4);
            refused("put 7.;", 2, 6);
            refused("put 7.-5;", 2, 6);
            refused("put 7.miss;", 2, 6);
            refused("put 7..5;", 2, 6);
            refused("put 7.5.5;", 2, 7);
            refused("put miss.5;", 2, 8);
            refused("put 7 8 .;", 2, 9);
            refused("put 7-;", 2, 6);
        });
    }

    private static int[] filled(int n, int v) {
        int[] row = new int[n];
        java.util.Arrays.fill(row, v);
        return row;
    }

    private static void isPart(String text, int p, int q) {
        SlidingRanks x = Due.of(text);
        Due.is("p of " + text, x.rule(4), p);
        Due.is("q of " + text, x.rule(5), q);
    }

    private static void parts() {
        Sentences.says("part: p, q (q behind it, no less than p).", () -> {
            isPart("part 0 1;", 0, 1);
            isPart("part 1 1;", 1, 1);
            isPart("part 3 7;", 3, 7);
            isPart("part 100 100;", 100, 100);
            isPart("part 0 100;", 0, 100);
            isPart("part 99 100;", 99, 100);
            refused("part 2 1;", 3, 7);
            refused("part 100 99;", 3, 9);
            refused("part 1 0;", 3, 7);
        });
    }

    private static void readings() {
        Sentences.says("put: READINGS more: missing, or N, and behind the point one figure (tenths) or two (hundredths).", () -> {
            told("put 1;put miss 2;put 3;", 100, NOTHING, 200, 300);
            told("put 0 0.0 0.00 -0 -0.0 -0.00;", 0, 0, 0, 0, 0, 0);
            told("put 0.1 0.9 0.01 0.09 0.10 0.99;", 10, 90, 1, 9, 10, 99);
            told("put -0.1 -0.9 -0.01 -0.09 -0.10 -0.99;", -10, -90, -1, -9, -10, -99);
            told("put 9999 9999.9 9999.99;", 999900, 999990, 999999);
            told("put -9999 -9999.9 -9999.99;", -999900, -999990, -999999);
            told("put 0001.05;", 105);
            refused("put 1.005;", 3, 6);
        });
    }

    private static void order() {
        Sentences.says("FAULTS, the first met as it is read (a TOKEN is read when the one before has been taken):", () -> {
            refused("width 25$", 3, 6);
            refused("width 24$", 1, 8);
            refused("need 0 12345", 3, 5);
            refused("part 3 2 $", 3, 7);
            refused("part 101 $", 3, 5);
            refused("part 100 $", 1, 9);
            refused("foo$", 2, 0);
            refused("rule foo$", 2, 5);
            refused("form low$", 2, 5);
            refused("rule low$", 1, 8);
            refused("put .$", 2, 4);
            refused("put 1.234$", 3, 6);
            refused("put 1.23$", 1, 8);
            refused("put 1$", 1, 5);
            refused("put 1 low $", 2, 6);
            refused("put -$", 1, 5);
            refused("put 1.$", 1, 6);
            refused("put miss$", 1, 8);
            refused("width 3;width$", 4, 8);
            refused("width 3;foo;width 3;", 2, 8);
            refused("width 3;$width 3;", 1, 8);
            refused("width 3;width 25;", 4, 8);
            refused("need 25;width 25;", 3, 5);
            refused("rule 12345;", 1, 5);
            refused("12345", 1, 0);
            refused("put 1.12345", 1, 6);
        });
    }

    private static void faults() {
        Sentences.says("1 no TOKEN, a NUMBER that is too long (its first byte).", () -> {
            refused("+", 1, 0);
            refused("put 1 +2;", 1, 6);
            refused("put 1,5;", 1, 5);
            refused("Put 1;", 1, 0);
            refused("put 1 MISS;", 1, 6);
            refused("put 12345;", 1, 4);
            refused("put 1 -00001;", 1, 7);
            refused("width 00005;", 1, 6);
            refused("part 1 00002;", 1, 7);
            refused("put 1.00000;", 1, 6);
            refused("put 1;  12345", 1, 8);
            refused("put 12345$", 1, 4);
        });
        Sentences.says("2 a TOKEN that can not stand there (a NAME that is not told of there; or the end: the length).", () -> {
            refused("a", 2, 0);
            refused("zzz 3;", 2, 0);
            refused("put 1 width 3;", 2, 6);
            refused("width need;", 2, 6);
            refused("rule width;", 2, 5);
            refused("put miss low;", 2, 9);
            refused("width", 2, 5);
            refused("width ", 2, 6);
            refused("width 3", 2, 7);
            refused("width 3   ", 2, 10);
            refused("put 1.", 2, 6);
            refused("put -", 2, 5);
            refused("part 1", 2, 6);
        });
        Sentences.says("3 a NUMBER out of its bounds (behind a point: of more than two figures; q less than p, 0).", () -> {
            int[] widths = {0, 25, 26, 100, 9999};
            for (int w : widths) {
                refused("width " + w + ";", 3, 6);
                refused("need " + w + ";", 3, 5);
            }
            for (int w = 1; w <= 24; w++) {
                Due.is("width " + w, Due.of("width " + w + ";").rule(2), w);
                Due.is("need " + w, Due.of("need " + w + ";").rule(3), w);
            }
            refused("width 0000;", 3, 6);
            refused("part 101 101;", 3, 5);
            refused("part 9999 1;", 3, 5);
            refused("part 0 0;", 3, 7);
            refused("part 1 0;", 3, 7);
            refused("part 0 101;", 3, 7);
            refused("part 100 101;", 3, 9);
            refused("part 5 4;", 3, 7);
            refused("put 1.000;", 3, 6);
            refused("put 1.0000;", 3, 6);
            refused("put -1.123;", 3, 7);
            refused("put 1 . 123;", 3, 8);
        });
    }

    private static void laterFaults() {
        Sentences.says("4 width, need, part, rule, form for the second time (its NAME).", () -> {
            for (int i = 0; i < 5; i++) {
                String line = start(LINES[i], LINES[i].length);
                refused(line + line, 4, line.length());
                refused(line + "put 1; " + line, 4, line.length() + 7);
                refused(line + LINES[i][0], 4, line.length());
                for (int j = 0; j < 5; j++) {
                    String other = start(LINES[j], LINES[j].length);
                    if (i != j) {
                        told(line + other);
                        refused(line + other + line, 4, line.length() + other.length());
                    }
                }
            }
            told("put 1;put 1;put 1;", 100, 100, 100);
            SlidingRanks x = new SlidingRanks();
            Due.text(x, "width 3;");
            Due.is("another text's WIDTH is not a second", Due.text(x, "width 4;"), 0);
            Due.text(x, "need 3;$");
            Due.is("nor is a refused text's NEED", Due.text(x, "need 4;"), 0);
        });
        Sentences.says("5 the 97th READING (its first TOKEN).", () -> {
            String full = "put" + " 1".repeat(96);
            told(full + ";", filled(96, 100));
            told("put " + "1-".repeat(95) + "1;", firstAbove(96));
            refused(full + " 1;", 5, 196);
            refused(full + " miss;", 5, 196);
            refused(full + "-1;", 5, 195);
            refused(full + " - 1;", 5, 196);
            refused(full + " 1.5;", 5, 196);
            refused(full + " 1", 5, 196);
            refused(full + " 1$", 5, 196);
            refused(full + " -", 5, 196);
            refused(full + " -miss;", 5, 196);
            refused(full + " 1.234;", 5, 196);
            refused(full + ";put 1;", 5, 200);
            refused(full + ";put - 1;", 5, 200);
            refused(full + ";put miss;", 5, 200);
            refused(full + ";put;", 2, 199);
            refused(full + ";put low;", 2, 200);
            refused(full + " 12345;", 1, 196);
            refused(full + ".5.5;", 2, 197);
            told(full + " .5;", lastOf(96, 150));
            refused(full + " low;", 2, 196);
            refused(full + "$", 1, 195);
            SlidingRanks x = Due.of("put 7" + " 1".repeat(95) + ";");
            x.keep(0);
            Due.is("96 READINGS in place of 96", Due.text(x, full + ";"), 96);
            Due.is("not behind them", x.reading(0), 100);
        });
    }

    private static int[] lastOf(int n, int v) {
        int[] row = filled(n, 100);
        row[n - 1] = v;
        return row;
    }

    private static int[] firstAbove(int n) {
        int[] row = filled(n, -100);
        row[0] = 100;
        return row;
    }

    private static void taken() {
        Sentences.says("A text that is taken tells all, in place of what there was (what is not told is as at first);", () -> {
            String all = "width 7;need 3;part 2 9;rule line;form sign;put 1 miss;";
            int[] first = {0, 0, 5, 1, 1, 2, 0, 0};
            int[] told = {2, 1, 7, 3, 2, 9, 4, 2};
            String[] lines = {"", "width 7;", "need 3;", "part 2 9;", "rule line;", "form sign;", "put 1 miss;", all};
            int[][] tells = {{}, {2}, {3}, {4, 5}, {6}, {7}, {0, 1}, {0, 1, 2, 3, 4, 5, 6, 7}};
            for (int i = 0; i < lines.length; i++) {
                SlidingRanks x = Due.of("width 9;need 9;part 9 10;rule mean;form cents;put 5 6 7 miss miss;");
                Due.text(x, lines[i]);
                int[] want = first.clone();
                for (int what : tells[i]) {
                    want[what] = told[what];
                }
                for (int what = 0; what < want.length; what++) {
                    Due.is("rule(" + what + ") by '" + lines[i] + "'", x.rule(what), want[what]);
                }
            }
        });
        Sentences.says("IMAGES are gone.", () -> {
            String[] texts = {"", " ", "put 1;", "width 3;"};
            for (String text : texts) {
                SlidingRanks x = Due.of("put 7;");
                x.keep(0);
                x.keep(1);
                Due.text(x, "$");
                Due.is("not by a text that is refused", x.count(0), 2);
                Due.text(x, text);
                Due.is("by a text that is taken", x.count(0), 0);
                Due.is("IMAGE 0", x.back(0), STATE);
                Due.is("IMAGE 1", x.back(1), STATE);
                Due.is("keep(0): there was none", x.keep(0), 0);
            }
        });
    }
}
