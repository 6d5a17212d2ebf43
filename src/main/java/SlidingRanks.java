/**
 * Quantiles that slide along readings. The document (../shared/DOC.md) tells every call;
 * the words in capitals in the comments below are its words.
 */
public final class SlidingRanks {
    public static final int BAD = -1, STATE = -2, FULL = -3, NONE = -4;
    public static final int NOTHING = 100000000;

    private static final int MOST_READINGS = 96;
    private static final int MOST_HUNDREDTHS = 999999;
    private static final int MOST_WIDTH = 24;
    private static final int MOST_NEED = 24;
    private static final int MOST_PART = 100;
    private static final int MOST_FACTOR = 20;
    private static final int MOST_DRIFT = 48;
    private static final int MOST_CELLS = 40;
    private static final int TAPE_BYTES = 320;

    private static final int LOW = 0, HIGH = 1, NEAR = 2, MEAN = 3, LINE = 4;
    private static final int PLAIN = 0, CENTS = 1, SIGN = 2;
    private static final int BYTES = 0, SHORTS = 1, INTS = 2;
    private static final int NULL_FAULT = 1, INDEX_FAULT = 2, CAST_FAULT = 3, SIZE_FAULT = 4;

    private final Tape tape = new Tape();
    private final Teller teller = new Teller();
    private final Series now = new Series();
    private final Row ordered = new Row(now);
    private final Words words = new Words();
    private final Series[] images = {new Series(), new Series()};
    private final boolean[] kept = {false, false};
    private final Sheet[] sheets = {new Sheet(), new Sheet(), new Sheet(), new Sheet()};
    private int latestTear = 0;

    public SlidingRanks() {
    }

    // ---- the text, what there is

    public int feed(int c) {
        if (c < 0 || c > 127) {
            return BAD;
        }
        if (tape.isFull()) {
            return FULL;
        }
        tape.append(c);
        return tape.length;
    }

    public int end(int n) {
        int had = tape.length;
        if (n < 0 || n > had) {
            return BAD;
        }
        tape.length = n;
        return had;
    }

    public int text() {
        boolean taken = teller.tell(tape);
        tape.length = 0;
        if (!taken) {
            return -10 - teller.faultPlace;
        }
        now.copyFrom(teller.draft);
        for (int k = 0; k < kept.length; k++) {
            kept[k] = false;
        }
        return now.size;
    }

    public int fault() {
        return teller.fault;
    }

    public int rule(int what) {
        switch (what) {
            case 0:
                return now.size;
            case 1:
                return now.countMissing();
            case 2:
                return now.width;
            case 3:
                return now.need;
            case 4:
                return now.p;
            case 5:
                return now.q;
            case 6:
                return now.rule;
            case 7:
                return now.form;
            case 8:
                return countResults();
            default:
                return BAD;
        }
    }

    public int reading(int t) {
        return now.valueAt(t);
    }

    // ---- rows, results

    public int row(int t, int what) {
        if (!now.has(t) || what < 0 || what > 2) {
            return BAD;
        }
        ordered.load(t);
        if (what == 0) {
            return ordered.n;
        }
        if (!ordered.hasResult()) {
            return NONE;
        }
        return what == 1 ? ordered.placeWhole() : ordered.placeRest();
    }

    public int item(int t, int i) {
        if (!now.has(t)) {
            return NOTHING;
        }
        ordered.load(t);
        return ordered.at(i);
    }

    public int result(int t, int what) {
        if (!now.has(t) || what < 0 || what > 2) {
            return NOTHING;
        }
        ordered.load(t);
        if (!ordered.hasResult()) {
            return NOTHING;
        }
        if (what == 0) {
            return ordered.numerator();
        }
        return what == 1 ? ordered.denominator() : ordered.rounded();
    }

    public int rank(int t, int v, int what) {
        if (!now.has(t) || what < 0 || what > 1) {
            return BAD;
        }
        ordered.load(t);
        return what == 0 ? ordered.countLess(v) : ordered.countSame(v);
    }

    public int shown(int t, int k) {
        if (!now.has(t) || k < 0) {
            return BAD;
        }
        ordered.load(t);
        writeWords();
        return k < words.length ? words.byteAt(k) : NONE;
    }

    public int middle(int t, int what) {
        if (!now.has(t) || what < 0 || what > 1) {
            return NOTHING;
        }
        ordered.load(t);
        if (ordered.n == 0) {
            return NOTHING;
        }
        return what == 0 ? ordered.middleValue() : ordered.spread();
    }

    public int far(int t, int k) {
        if (!now.has(t) || !isFactor(k)) {
            return BAD;
        }
        ordered.load(t);
        return ordered.isFar(now.valueAt(t), k) ? 1 : 0;
    }

    public int fars(int k) {
        if (!isFactor(k)) {
            return BAD;
        }
        int found = 0;
        ordered.clear();
        for (int t = 0; t < now.size; t++) {
            ordered.slideTo(t);
            if (ordered.isFar(now.valueAt(t), k)) {
                found++;
            }
        }
        return found;
    }

    public int above(int v, int what) {
        if (what < 0 || what > 3) {
            return BAD;
        }
        int found = 0;
        int first = NONE;
        int last = NONE;
        int together = 0;
        int longest = 0;
        ordered.clear();
        for (int t = 0; t < now.size; t++) {
            ordered.slideTo(t);
            if (ordered.isAbove(v)) {
                first = found == 0 ? t : first;
                last = t;
                found++;
                together++;
                longest = Math.max(longest, together);
            } else {
                together = 0;
            }
        }
        switch (what) {
            case 0:
                return found;
            case 1:
                return first;
            case 2:
                return last;
            default:
                return longest;
        }
    }

    public int most(int what) {
        if (what < 0 || what > 1) {
            return BAD;
        }
        int best = NONE;
        int bestAbove = 0;
        ordered.clear();
        for (int t = 0; t < now.size; t++) {
            ordered.slideTo(t);
            if (ordered.hasResult()) {
                // All RESULTS have one BELOW at a time, so ABOVE alone tells which is greater.
                int above = ordered.numerator();
                boolean better = what == 0 ? above < bestAbove : above > bestAbove;
                if (best == NONE || better) {
                    best = t;
                    bestAbove = above;
                }
            }
        }
        return best;
    }

    // ---- changes

    public int add(int v) {
        if (!isHundredths(v)) {
            return BAD;
        }
        return putBehind(v);
    }

    public int miss() {
        return putBehind(NOTHING);
    }

    public int set(int t, int v) {
        if (!now.has(t) || !isHundredths(v)) {
            return BAD;
        }
        return replace(t, v);
    }

    public int lose(int t) {
        if (!now.has(t)) {
            return BAD;
        }
        return replace(t, NOTHING);
    }

    public int drop(int n) {
        if (n < 0 || n > now.size) {
            return BAD;
        }
        now.dropFirst(n);
        return now.size;
    }

    public int width(int w) {
        if (w < 1 || w > MOST_WIDTH) {
            return BAD;
        }
        int was = now.width;
        now.width = w;
        return was;
    }

    public int need(int n) {
        if (n < 1 || n > MOST_NEED) {
            return BAD;
        }
        int was = now.need;
        now.need = n;
        return was;
    }

    public int part(int p, int q) {
        if (q < 1 || q > MOST_PART || p < 0 || p > q) {
            return BAD;
        }
        int was = 1000 * now.p + now.q;
        now.p = p;
        now.q = q;
        return was;
    }

    public int choose(int r) {
        if (r < LOW || r > LINE) {
            return BAD;
        }
        int was = now.rule;
        now.rule = r;
        return was;
    }

    public int form(int f) {
        if (f < PLAIN || f > SIGN) {
            return BAD;
        }
        int was = now.form;
        now.form = f;
        return was;
    }

    public int drift(int seed, int n) {
        if (n < 1 || n > MOST_DRIFT) {
            return BAD;
        }
        int ahead = now.latestValue();
        int came = 0;
        for (int i = 0; i < n && !now.isFull(); i++) {
            seed = seed * 1103515245 + 12345;
            int got = (seed >>> 16) & 0x7FFF;
            if (got % 9 == 0) {
                now.append(NOTHING);
            } else {
                int moved = ahead + got / 16 % 401 - 200;
                ahead = Math.max(-MOST_HUNDREDTHS, Math.min(MOST_HUNDREDTHS, moved));
                now.append(ahead);
            }
            came++;
        }
        return came;
    }

    // ---- images, sheets

    public int keep(int k) {
        if (!isImage(k)) {
            return BAD;
        }
        int had = kept[k] ? 1 : 0;
        images[k].copyFrom(now);
        kept[k] = true;
        return had;
    }

    public int back(int k) {
        if (!isImage(k)) {
            return BAD;
        }
        if (!kept[k]) {
            return STATE;
        }
        now.copyFrom(images[k]);
        return now.size;
    }

    public int sheet(int k, int lane, int n) {
        if (!isSheet(k) || !isLane(lane) || n > MOST_CELLS) {
            return BAD;
        }
        if (n < 0) {
            return -10 - SIZE_FAULT;
        }
        sheets[k].renew(lane, n);
        return 1;
    }

    public int lay(int k, int i, int v) {
        if (!isSheet(k)) {
            return BAD;
        }
        Sheet laid = sheets[k];
        if (laid.isNothing()) {
            return -10 - NULL_FAULT;
        }
        if (!laid.hasCell(i)) {
            return -10 - INDEX_FAULT;
        }
        laid.write(i, v);
        return 1;
    }

    public int read(int k, int lane, int f, int n) {
        if (!isSheet(k) || !isLane(lane) || n < 0 || n > MOST_CELLS) {
            return BAD;
        }
        int had = now.size;
        int tear = 0;
        int came = 0;
        for (; came < n; came++) {
            tear = tearAt(sheets[k], lane, f + came);
            if (tear != 0) {
                break;
            }
            if (add(sheets[k].valueAt(f + came)) < 0) {
                now.size = had;
                return -20 - came;
            }
        }
        latestTear = tear;
        return came;
    }

    public int torn() {
        return latestTear;
    }

    public int count(int what) {
        switch (what) {
            case 0:
                return countImages();
            case 1:
                return tape.length;
            case 2:
                return sheets[0].isNothing() ? NONE : sheets[0].size;
            case 3:
                return countShownBytes();
            default:
                return BAD;
        }
    }

    // ---- what the calls share

    private static boolean isHundredths(int v) {
        return v >= -MOST_HUNDREDTHS && v <= MOST_HUNDREDTHS;
    }

    private static boolean isFactor(int k) {
        return k >= 1 && k <= MOST_FACTOR;
    }

    private boolean isImage(int k) {
        return k >= 0 && k < kept.length && k < images.length;
    }

    private boolean isSheet(int k) {
        return k >= 0 && k < sheets.length;
    }

    private static boolean isLane(int lane) {
        return lane >= BYTES && lane <= INTS;
    }

    private int putBehind(int v) {
        if (now.isFull()) {
            return FULL;
        }
        now.append(v);
        return now.size;
    }

    private int replace(int t, int v) {
        int wasMissing = now.valueAt(t) == NOTHING ? 1 : 0;
        now.change(t, v);
        return wasMissing;
    }

    private int countResults() {
        int found = 0;
        ordered.clear();
        for (int t = 0; t < now.size; t++) {
            ordered.slideTo(t);
            if (ordered.hasResult()) {
                found++;
            }
        }
        return found;
    }

    private int countImages() {
        int found = 0;
        for (int k = 0; k < kept.length; k++) {
            if (kept[k]) {
                found++;
            }
        }
        return found;
    }

    private int countShownBytes() {
        int bytes = 0;
        ordered.clear();
        for (int t = 0; t < now.size; t++) {
            ordered.slideTo(t);
            writeWords();
            bytes += words.length;
        }
        return bytes;
    }

    private void writeWords() {
        if (ordered.hasResult()) {
            words.writeNumber(ordered.rounded(), now.form);
        } else {
            words.writeNone();
        }
    }

    /** What the machine would find at a CELL; the order is its own: null passes a cast, and a cast comes ahead of an index. */
    private static int tearAt(Sheet from, int lane, int i) {
        if (from.isNothing()) {
            return NULL_FAULT;
        }
        if (from.lane != lane) {
            return CAST_FAULT;
        }
        return from.hasCell(i) ? 0 : INDEX_FAULT;
    }

    /** What a text tells and an IMAGE keeps: READINGS, WIDTH, NEED, PART, RULE, FORM. */
    private static final class Series {
        private final int[] readings = new int[MOST_READINGS];
        private int size;
        private int width;
        private int need;
        private int p;
        private int q;
        private int rule;
        private int form;

        Series() {
            reset();
        }

        void reset() {
            size = 0;
            width = 5;
            need = 1;
            p = 1;
            q = 2;
            rule = LOW;
            form = PLAIN;
        }

        void copyFrom(Series other) {
            System.arraycopy(other.readings, 0, readings, 0, other.size);
            size = other.size;
            width = other.width;
            need = other.need;
            p = other.p;
            q = other.q;
            rule = other.rule;
            form = other.form;
        }

        boolean has(int t) {
            return t >= 0 && t < size;
        }

        boolean isFull() {
            return size >= MOST_READINGS;
        }

        /** NOTHING for a missing one, and where there is none. */
        int valueAt(int t) {
            return has(t) ? readings[t] : NOTHING;
        }

        void append(int v) {
            if (!isFull()) {
                readings[size] = v;
                size++;
            }
        }

        void change(int t, int v) {
            if (has(t)) {
                readings[t] = v;
            }
        }

        void dropFirst(int n) {
            if (n >= 0 && n <= size) {
                System.arraycopy(readings, n, readings, 0, size - n);
                size -= n;
            }
        }

        int countMissing() {
            int found = 0;
            for (int t = 0; t < size; t++) {
                if (readings[t] == NOTHING) {
                    found++;
                }
            }
            return found;
        }

        int latestValue() {
            for (int t = size - 1; t >= 0; t--) {
                if (readings[t] != NOTHING) {
                    return readings[t];
                }
            }
            return 0;
        }
    }

    /** The ROW of one READING, and its RESULT. One row serves all calls, so that none makes arrays. */
    private static final class Row {
        private final Series series;
        private final int[] x = new int[MOST_WIDTH];
        private int n = 0;

        Row(Series series) {
            this.series = series;
        }

        void clear() {
            n = 0;
        }

        void load(int t) {
            clear();
            for (int i = Math.max(0, t - series.width + 1); i <= t; i++) {
                putIn(series.valueAt(i));
            }
        }

        /** From the ROW of t less 1 (or from a clear one, if t is 0) to that of t. */
        void slideTo(int t) {
            takeOut(series.valueAt(t - series.width));
            putIn(series.valueAt(t));
        }

        private void putIn(int v) {
            if (v == NOTHING || n >= x.length) {
                return;
            }
            int i = n;
            while (i > 0 && x[i - 1] > v) {
                x[i] = x[i - 1];
                i--;
            }
            x[i] = v;
            n++;
        }

        private void takeOut(int v) {
            int i = countLess(v);
            if (i >= n || x[i] != v) {
                return;
            }
            n--;
            for (; i < n; i++) {
                x[i] = x[i + 1];
            }
        }

        int at(int i) {
            return i >= 0 && i < n ? x[i] : NOTHING;
        }

        int countLess(int v) {
            int i = 0;
            while (i < n && x[i] < v) {
                i++;
            }
            return i;
        }

        int countSame(int v) {
            int found = 0;
            for (int i = 0; i < n; i++) {
                if (x[i] == v) {
                    found++;
                }
            }
            return found;
        }

        boolean hasResult() {
            return n > 0 && n >= series.need;
        }

        int placeWhole() {
            return series.q < 1 ? 0 : (n - 1) * series.p / series.q;
        }

        int placeRest() {
            return series.q < 1 ? 0 : (n - 1) * series.p % series.q;
        }

        int numerator() {
            int k = placeWhole();
            int r = placeRest();
            int lower = at(k);
            int upper = r > 0 ? at(k + 1) : lower;
            switch (series.rule) {
                case LOW:
                    return lower;
                case HIGH:
                    return upper;
                case NEAR:
                    return isNearLower(k, r) ? lower : upper;
                case MEAN:
                    return lower + upper;
                default:
                    return lower * (series.q - r) + upper * r;
            }
        }

        private boolean isNearLower(int k, int r) {
            return 2 * r < series.q || 2 * r == series.q && k % 2 == 0;
        }

        int denominator() {
            switch (series.rule) {
                case MEAN:
                    return 2;
                case LINE:
                    return series.q;
                default:
                    return 1;
            }
        }

        int rounded() {
            int above = numerator();
            int below = denominator();
            if (below < 1) {
                return 0;
            }
            int size = (2 * Math.abs(above) + below) / (2 * below);
            return above < 0 ? -size : size;
        }

        boolean isAbove(int v) {
            return hasResult() && numerator() > (long) v * denominator();
        }

        int middleValue() {
            return at((n - 1) / 2);
        }

        /** The row is in order, so the differences in order are met by going out from the middle on both sides. */
        int spread() {
            int m = (n - 1) / 2;
            int down = m - 1;
            int up = m + 1;
            int difference = 0;
            for (int i = 0; i < m; i++) {
                int below = down >= 0 ? at(m) - at(down) : NOTHING;
                int above = up < n ? at(up) - at(m) : NOTHING;
                if (below <= above) {
                    difference = below;
                    down--;
                } else {
                    difference = above;
                    up++;
                }
            }
            return difference;
        }

        boolean isFar(int v, int k) {
            return v != NOTHING && Math.abs(v - middleValue()) > k * spread();
        }
    }

    /** The bytes SHOWN of one READING. */
    private static final class Words {
        private static final int MOST_BYTES = 8;

        private final byte[] bytes = new byte[MOST_BYTES];
        private int length = 0;

        int byteAt(int k) {
            return k >= 0 && k < length ? bytes[k] : NONE;
        }

        void writeNone() {
            length = 0;
            push('n');
            push('o');
            push('n');
            push('e');
        }

        void writeNumber(int hundredths, int form) {
            length = 0;
            if (hundredths < 0) {
                push('-');
            } else if (hundredths > 0 && form == SIGN) {
                push('+');
            }
            int size = Math.abs(hundredths);
            writeWhole(size / 100);
            int tenths = size / 10 % 10;
            int last = size % 10;
            boolean two = form == CENTS || last > 0;
            if (two || tenths > 0) {
                push('.');
                push('0' + tenths);
            }
            if (two) {
                push('0' + last);
            }
        }

        private void writeWhole(int whole) {
            for (int power = 1000; power >= 1; power /= 10) {
                if (whole >= power || power == 1) {
                    push('0' + whole / power % 10);
                }
            }
        }

        private void push(int c) {
            if (length < bytes.length) {
                bytes[length] = (byte) c;
                length++;
            }
        }
    }

    /**
     * A SHEET: its CELLS hold what a BYTE, a SHORT or an INT would. Its row is as long as any may be and is used
     * again by each sheet(), so that no call makes anything.
     */
    private static final class Sheet {
        private static final int NO_ROW = -1;

        private final int[] cells = new int[MOST_CELLS];
        private int lane = BYTES;
        private int size = NO_ROW;

        boolean isNothing() {
            return size == NO_ROW;
        }

        void renew(int newLane, int newSize) {
            lane = newLane;
            size = newSize < 0 ? NO_ROW : Math.min(newSize, cells.length);
            for (int i = 0; i < cells.length; i++) {
                cells[i] = 0;
            }
        }

        boolean hasCell(int i) {
            return i >= 0 && i < size && i < cells.length;
        }

        int valueAt(int i) {
            return hasCell(i) ? cells[i] : 0;
        }

        void write(int i, int v) {
            if (hasCell(i)) {
                cells[i] = lane == BYTES ? (byte) v : lane == SHORTS ? (short) v : v;
            }
        }
    }

    /** THE TAPE. */
    private static final class Tape {
        private final byte[] bytes = new byte[TAPE_BYTES];
        private int length = 0;

        boolean isFull() {
            return length >= TAPE_BYTES;
        }

        void append(int c) {
            if (!isFull()) {
                bytes[length] = (byte) c;
                length++;
            }
        }

        /** -1 behind the end: no byte is that. */
        int byteAt(int i) {
            return i >= 0 && i < length ? bytes[i] : -1;
        }
    }

    /**
     * Reads THE TAPE into a draft, so that what was told stays if there is a FAULT. It goes TOKEN by TOKEN and
     * knows only what it wants next: so a TOKEN is read when the one before has been taken, and calls stay shallow.
     */
    private static final class Teller {
        private static final int NO_TOKEN = 1, OUT_OF_PLACE = 2, OUT_OF_BOUNDS = 3, TWICE = 4, TOO_MANY = 5;
        private static final int AT_END = 0, NAME = 1, NUMBER = 2, MARK = 3;
        private static final int MOST_FIGURES = 4;
        private static final int MOST_WHOLE = 9999;
        private static final int MOST_FRACTION_FIGURES = 2;

        /** All NAMES that a text may have, a blank behind each; a NAME's number is its place among them. */
        private static final String NAMES =
                "width need part rule form put miss low high near mean line plain cents sign ";
        private static final int MISS_NAME = 6, LOW_NAME = 7, LINE_NAME = 11, PLAIN_NAME = 12, SIGN_NAME = 14;

        /** What may be wanted next. The first six are wanted behind the NAME of the same number. */
        private static final int WIDTH_NEXT = 0, NEED_NEXT = 1, P_NEXT = 2, RULE_NEXT = 3, FORM_NEXT = 4, READING_NEXT = 5;
        private static final int Q_NEXT = 6, WHOLE_NEXT = 7, POINT_NEXT = 8, FRACTION_NEXT = 9, MORE_NEXT = 10;
        private static final int LINE_END_NEXT = 11, LINE_NEXT = 12;

        private final Series draft = new Series();
        private int wanted = LINE_NEXT;
        private int told = 0;
        private boolean negative = false;
        private int hundredths = 0;

        private int kind = AT_END;
        private int start = 0;
        private int next = 0;
        private int name = NONE;
        private int value = 0;

        private int fault = 0;
        private int faultPlace = 0;

        boolean tell(Tape tape) {
            draft.reset();
            wanted = LINE_NEXT;
            told = 0;
            next = 0;
            fault = 0;
            faultPlace = 0;
            scan(tape);
            // A TOKEN has one byte at least, so there are no more TOKENS than bytes.
            for (int tokens = 0; tokens < TAPE_BYTES && fault == 0 && kind != AT_END; tokens++) {
                takeToken(tape.byteAt(start));
                if (fault == 0) {
                    scan(tape);
                }
            }
            if (fault == 0 && wanted != LINE_NEXT) {
                refuse(OUT_OF_PLACE);
            }
            return fault == 0;
        }

        private void refuse(int which) {
            fault = which;
            faultPlace = start;
        }

        private void takeToken(int first) {
            switch (wanted) {
                case LINE_NEXT:
                    takeLineName();
                    break;
                case WIDTH_NEXT:
                    draft.width = takeNumber(1, MOST_WIDTH, LINE_END_NEXT);
                    break;
                case NEED_NEXT:
                    draft.need = takeNumber(1, MOST_NEED, LINE_END_NEXT);
                    break;
                case P_NEXT:
                    draft.p = takeNumber(0, MOST_PART, Q_NEXT);
                    break;
                case Q_NEXT:
                    draft.q = takeNumber(Math.max(1, draft.p), MOST_PART, LINE_END_NEXT);
                    break;
                case RULE_NEXT:
                    draft.rule = takeChoice(LOW_NAME, LINE_NAME);
                    break;
                case FORM_NEXT:
                    draft.form = takeChoice(PLAIN_NAME, SIGN_NAME);
                    break;
                case LINE_END_NEXT:
                    takeLineEnd(first);
                    break;
                case WHOLE_NEXT:
                    takeWhole();
                    break;
                case FRACTION_NEXT:
                    takeFraction();
                    break;
                default:
                    takeReadingOrMore(first);
                    break;
            }
        }

        /** Where a READING may begin, or (not behind put) the line may end, or (behind a whole part) a point may stand. */
        private void takeReadingOrMore(int first) {
            boolean minus = first == '-';
            if (wanted == POINT_NEXT && first == '.') {
                wanted = FRACTION_NEXT;
            } else if (wanted != READING_NEXT && first == ';') {
                wanted = LINE_NEXT;
            } else if (!minus && kind != NUMBER && name != MISS_NAME) {
                refuse(OUT_OF_PLACE);
            } else if (draft.isFull()) {
                refuse(TOO_MANY);
            } else if (name == MISS_NAME) {
                draft.append(NOTHING);
                wanted = MORE_NEXT;
            } else {
                negative = minus;
                wanted = WHOLE_NEXT;
                if (!minus) {
                    takeWhole();
                }
            }
        }

        private void takeWhole() {
            hundredths = 100 * takeNumber(0, MOST_WHOLE, POINT_NEXT);
            draft.append(negative ? -hundredths : hundredths);
        }

        private void takeFraction() {
            int figures = next - start;
            if (kind == NUMBER && figures > MOST_FRACTION_FIGURES) {
                refuse(OUT_OF_BOUNDS);
                return;
            }
            int fraction = takeNumber(0, 99, MORE_NEXT);
            hundredths += figures == 1 ? 10 * fraction : fraction;
            draft.change(draft.size - 1, negative ? -hundredths : hundredths);
        }

        private void takeLineName() {
            if (name < WIDTH_NEXT || name > READING_NEXT) {
                refuse(OUT_OF_PLACE);
            } else if (name != READING_NEXT && (told >> name & 1) == 1) {
                refuse(TWICE);
            } else {
                told |= 1 << name;
                wanted = name;
            }
        }

        private int takeNumber(int least, int greatest, int then) {
            if (kind != NUMBER) {
                refuse(OUT_OF_PLACE);
                return least;
            }
            if (value < least || value > greatest) {
                refuse(OUT_OF_BOUNDS);
                return least;
            }
            wanted = then;
            return value;
        }

        private int takeChoice(int firstName, int lastName) {
            if (name < firstName || name > lastName) {
                refuse(OUT_OF_PLACE);
                return 0;
            }
            wanted = LINE_END_NEXT;
            return name - firstName;
        }

        private void takeLineEnd(int first) {
            if (first == ';') {
                wanted = LINE_NEXT;
            } else {
                refuse(OUT_OF_PLACE);
            }
        }

        /** The next TOKEN, from start up to next. */
        private void scan(Tape tape) {
            start = next;
            while (start < tape.length && tape.byteAt(start) == ' ') {
                start++;
            }
            next = start;
            name = NONE;
            int first = tape.byteAt(start);
            if (first < 0) {
                kind = AT_END;
            } else if (isLetter(first)) {
                scanName(tape);
            } else if (isFigure(first)) {
                scanNumber(tape);
            } else if (first == '-' || first == '.' || first == ';') {
                kind = MARK;
                next = start + 1;
            } else {
                refuse(NO_TOKEN);
            }
        }

        private void scanName(Tape tape) {
            kind = NAME;
            while (next < tape.length && isLetter(tape.byteAt(next))) {
                next++;
            }
            name = numberOfName(tape);
        }

        private int numberOfName(Tape tape) {
            int number = 0;
            int place = start;
            boolean same = true;
            for (int i = 0; i < NAMES.length(); i++) {
                char c = NAMES.charAt(i);
                if (c != ' ') {
                    same = same && place < next && tape.byteAt(place) == c;
                    place++;
                } else if (same && place == next) {
                    return number;
                } else {
                    number++;
                    place = start;
                    same = true;
                }
            }
            return NONE;
        }

        private void scanNumber(Tape tape) {
            kind = NUMBER;
            value = 0;
            while (next < tape.length && isFigure(tape.byteAt(next))) {
                // Figures past the fourth are not summed: the NUMBER is refused below, whatever it is.
                if (next - start < MOST_FIGURES) {
                    value = 10 * value + tape.byteAt(next) - '0';
                }
                next++;
            }
            if (next - start > MOST_FIGURES) {
                refuse(NO_TOKEN);
            }
        }

        private static boolean isLetter(int c) {
            return c >= 'a' && c <= 'z';
        }

        private static boolean isFigure(int c) {
            return c >= '0' && c <= '9';
        }
    }
}
