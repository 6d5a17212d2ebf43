import java.math.BigDecimal;
import java.math.BigInteger;
import java.math.RoundingMode;
import java.util.ArrayList;
import java.util.Collections;
import java.util.HashSet;
import java.util.List;
import java.util.Set;
import java.util.regex.Matcher;
import java.util.regex.Pattern;

/**
 * The document written a second time, with all of the Java library and no care for speed: lists in place of rows,
 * sorting, big numbers, a parser by regular expressions that leaves by an exception. It shares no code with the class.
 */
final class Model {
    private static final int BAD = -1, STATE = -2, FULL = -3, NONE = -4;
    private static final int NOTHING = 100000000;
    private static final List<String> RULES = List.of("low", "high", "near", "mean", "line");
    private static final List<String> FORMS = List.of("plain", "cents", "sign");

    private static final class State {
        private List<Integer> readings = new ArrayList<>();
        private int width = 5;
        private int need = 1;
        private int p = 1;
        private int q = 2;
        private int rule = 0;
        private int form = 0;

        State copy() {
            State other = new State();
            other.readings = new ArrayList<>(readings);
            other.width = width;
            other.need = need;
            other.p = p;
            other.q = q;
            other.rule = rule;
            other.form = form;
            return other;
        }
    }

    private State state = new State();
    private final State[] images = new State[2];
    private final StringBuilder tape = new StringBuilder();
    private final Object[] sheets = new Object[4];
    private int fault = 0;
    private int torn = 0;

    int feed(int c) {
        if (c < 0 || c > 127) {
            return BAD;
        }
        return tape.length() == 320 ? FULL : tape.append((char) c).length();
    }

    int end(int n) {
        int had = tape.length();
        if (n < 0 || n > had) {
            return BAD;
        }
        tape.setLength(n);
        return had;
    }

    int text() {
        String told = tape.toString();
        tape.setLength(0);
        try {
            state = new Parser(told).parse();
        } catch (Refused refused) {
            fault = refused.fault;
            return -10 - refused.place;
        }
        fault = 0;
        images[0] = null;
        images[1] = null;
        return state.readings.size();
    }

    int fault() {
        return fault;
    }

    int rule(int what) {
        int results = 0;
        for (int t = 0; t < state.readings.size(); t++) {
            results += place(t) == null ? 0 : 1;
        }
        int[] all = {state.readings.size(), Collections.frequency(state.readings, null), state.width, state.need,
            state.p, state.q, state.rule, state.form, results};
        return what < 0 || what >= all.length ? BAD : all[what];
    }

    int reading(int t) {
        return !has(t) || state.readings.get(t) == null ? NOTHING : state.readings.get(t);
    }

    int row(int t, int what) {
        if (!has(t) || what < 0 || what > 2) {
            return BAD;
        }
        if (what == 0) {
            return ordered(t).size();
        }
        int[] place = place(t);
        return place == null ? NONE : place[what - 1];
    }

    int item(int t, int i) {
        return !has(t) || i < 0 || i >= ordered(t).size() ? NOTHING : ordered(t).get(i);
    }

    int result(int t, int what) {
        if (!has(t) || what < 0 || what > 2 || place(t) == null) {
            return NOTHING;
        }
        return what == 0 ? fraction(t)[0].intValueExact() : what == 1 ? fraction(t)[1].intValueExact() : round(t);
    }

    int rank(int t, int v, int what) {
        if (!has(t) || what < 0 || what > 1) {
            return BAD;
        }
        return (int) ordered(t).stream().filter(x -> what == 0 ? x < v : x == v).count();
    }

    int shown(int t, int k) {
        if (!has(t) || k < 0) {
            return BAD;
        }
        return k < words(t).length() ? words(t).charAt(k) : NONE;
    }

    int middle(int t, int what) {
        if (!has(t) || what < 0 || what > 1 || ordered(t).isEmpty()) {
            return NOTHING;
        }
        List<Integer> x = ordered(t);
        int m = (x.size() - 1) / 2;
        int middle = x.get(m);
        List<Integer> differences = new ArrayList<>();
        for (int v : x) {
            differences.add(Math.abs(v - middle));
        }
        Collections.sort(differences);
        return what == 0 ? middle : differences.get(m);
    }

    int far(int t, int k) {
        if (!has(t) || k < 1 || k > 20) {
            return BAD;
        }
        Integer v = state.readings.get(t);
        return v != null && Math.abs((long) v - middle(t, 0)) > (long) k * middle(t, 1) ? 1 : 0;
    }

    int fars(int k) {
        if (k < 1 || k > 20) {
            return BAD;
        }
        int sum = 0;
        for (int t = 0; t < state.readings.size(); t++) {
            sum += far(t, k);
        }
        return sum;
    }

    int above(int v, int what) {
        if (what < 0 || what > 3) {
            return BAD;
        }
        StringBuilder marks = new StringBuilder();
        for (int t = 0; t < state.readings.size(); t++) {
            boolean above = place(t) != null
                    && fraction(t)[0].compareTo(fraction(t)[1].multiply(BigInteger.valueOf(v))) > 0;
            marks.append(above ? 'x' : ' ');
        }
        String all = marks.toString();
        if (what == 0) {
            return all.replace(" ", "").length();
        }
        if (what < 3) {
            int place = what == 1 ? all.indexOf('x') : all.lastIndexOf('x');
            return place < 0 ? NONE : place;
        }
        int longest = 0;
        for (String run : all.split(" ")) {
            longest = Math.max(longest, run.length());
        }
        return longest;
    }

    int most(int what) {
        if (what < 0 || what > 1) {
            return BAD;
        }
        int best = NONE;
        for (int t = 0; t < state.readings.size(); t++) {
            if (place(t) != null && (best == NONE || (what == 0 ? compare(t, best) < 0 : compare(t, best) > 0))) {
                best = t;
            }
        }
        return best;
    }

    int add(int v) {
        return Math.abs((long) v) > 999999 ? BAD : behind(v);
    }

    int miss() {
        return behind(null);
    }

    int set(int t, int v) {
        if (!has(t) || Math.abs((long) v) > 999999) {
            return BAD;
        }
        return state.readings.set(t, v) == null ? 1 : 0;
    }

    int lose(int t) {
        if (!has(t)) {
            return BAD;
        }
        return state.readings.set(t, null) == null ? 1 : 0;
    }

    int drop(int n) {
        if (n < 0 || n > state.readings.size()) {
            return BAD;
        }
        state.readings.subList(0, n).clear();
        return state.readings.size();
    }

    int width(int w) {
        int was = state.width;
        if (w < 1 || w > 24) {
            return BAD;
        }
        state.width = w;
        return was;
    }

    int need(int n) {
        int was = state.need;
        if (n < 1 || n > 24) {
            return BAD;
        }
        state.need = n;
        return was;
    }

    int part(int p, int q) {
        int was = state.p * 1000 + state.q;
        if (q < 1 || q > 100 || p < 0 || p > q) {
            return BAD;
        }
        state.p = p;
        state.q = q;
        return was;
    }

    int choose(int r) {
        int was = state.rule;
        if (r < 0 || r > 4) {
            return BAD;
        }
        state.rule = r;
        return was;
    }

    int form(int f) {
        int was = state.form;
        if (f < 0 || f > 2) {
            return BAD;
        }
        state.form = f;
        return was;
    }

    int drift(int seed, int n) {
        if (n < 1 || n > 48) {
            return BAD;
        }
        BigInteger s = BigInteger.valueOf(seed);
        int came = 0;
        while (came < n && state.readings.size() < 96) {
            s = s.multiply(BigInteger.valueOf(1103515245)).add(BigInteger.valueOf(12345));
            int got = s.shiftRight(16).mod(BigInteger.valueOf(32768)).intValueExact();
            Integer v = null;
            if (got % 9 != 0) {
                int ahead = 0;
                for (Integer r : state.readings) {
                    ahead = r == null ? ahead : r;
                }
                v = Math.max(-999999, Math.min(999999, ahead + got / 16 % 401 - 200));
            }
            state.readings.add(v);
            came++;
        }
        return came;
    }

    int keep(int k) {
        if (k < 0 || k > 1) {
            return BAD;
        }
        int had = images[k] == null ? 0 : 1;
        images[k] = state.copy();
        return had;
    }

    int back(int k) {
        if (k < 0 || k > 1) {
            return BAD;
        }
        if (images[k] == null) {
            return STATE;
        }
        state = images[k].copy();
        return state.readings.size();
    }

    int sheet(int k, int lane, int n) {
        if (k < 0 || k > 3 || lane < 0 || lane > 2 || n > 40) {
            return BAD;
        }
        try {
            sheets[k] = lane == 0 ? new byte[n] : lane == 1 ? new short[n] : new int[n];
        } catch (NegativeArraySizeException found) {
            return -14;
        }
        return 1;
    }

    int lay(int k, int i, int v) {
        if (k < 0 || k > 3) {
            return BAD;
        }
        if (sheets[k] == null) {
            return -11;
        }
        try {
            if (sheets[k] instanceof byte[]) {
                ((byte[]) sheets[k])[i] = (byte) v;
            } else if (sheets[k] instanceof short[]) {
                ((short[]) sheets[k])[i] = (short) v;
            } else {
                ((int[]) sheets[k])[i] = v;
            }
        } catch (ArrayIndexOutOfBoundsException found) {
            return -12;
        }
        return 1;
    }

    /** Here the machine itself finds the faults, as the document has it. */
    int read(int k, int lane, int f, int n) {
        if (k < 0 || k > 3 || lane < 0 || lane > 2 || n < 0 || n > 40) {
            return BAD;
        }
        List<Integer> had = new ArrayList<>(state.readings);
        int came = 0;
        int found = 0;
        try {
            for (; came < n; came++) {
                int i = f + came;
                int v = lane == 0 ? ((byte[]) sheets[k])[i] : lane == 1 ? ((short[]) sheets[k])[i] : ((int[]) sheets[k])[i];
                if (add(v) < 0) {
                    state.readings = had;
                    return -20 - came;
                }
            }
        } catch (NullPointerException nothing) {
            found = 1;
        } catch (ArrayIndexOutOfBoundsException index) {
            found = 2;
        } catch (ClassCastException cast) {
            found = 3;
        }
        torn = found;
        return came;
    }

    int torn() {
        return torn;
    }

    int count(int what) {
        if (what == 0) {
            return (images[0] == null ? 0 : 1) + (images[1] == null ? 0 : 1);
        }
        if (what == 1) {
            return tape.length();
        }
        if (what == 2) {
            return sheets[0] == null ? NONE : java.lang.reflect.Array.getLength(sheets[0]);
        }
        if (what != 3) {
            return BAD;
        }
        int bytes = 0;
        for (int t = 0; t < state.readings.size(); t++) {
            bytes += words(t).length();
        }
        return bytes;
    }

    private boolean has(int t) {
        return t >= 0 && t < state.readings.size();
    }

    private int behind(Integer v) {
        if (state.readings.size() == 96) {
            return FULL;
        }
        state.readings.add(v);
        return state.readings.size();
    }

    private List<Integer> ordered(int t) {
        List<Integer> x = new ArrayList<>();
        for (Integer v : state.readings.subList(Math.max(0, t - state.width + 1), t + 1)) {
            if (v != null) {
                x.add(v);
            }
        }
        Collections.sort(x);
        return x;
    }

    /** The whole part and the rest of PLACE; null where there is no RESULT. */
    private int[] place(int t) {
        int n = ordered(t).size();
        if (n == 0 || n < state.need) {
            return null;
        }
        return new int[] {(n - 1) * state.p / state.q, (n - 1) * state.p % state.q};
    }

    private BigInteger[] fraction(int t) {
        List<Integer> x = ordered(t);
        int k = place(t)[0];
        int r = place(t)[1];
        long down = x.get(k);
        long up = r == 0 ? down : x.get(k + 1);
        boolean nearDown = 2 * r < state.q || 2 * r == state.q && k % 2 == 0;
        long[] above = {down, up, nearDown ? down : up, down + up, down * (state.q - r) + up * r};
        long[] below = {1, 1, 1, 2, state.q};
        return new BigInteger[] {BigInteger.valueOf(above[state.rule]), BigInteger.valueOf(below[state.rule])};
    }

    private int compare(int t, int u) {
        BigInteger[] a = fraction(t);
        BigInteger[] b = fraction(u);
        return a[0].multiply(b[1]).compareTo(b[0].multiply(a[1]));
    }

    private int round(int t) {
        BigInteger[] f = fraction(t);
        return new BigDecimal(f[0]).divide(new BigDecimal(f[1]), 0, RoundingMode.HALF_UP).intValueExact();
    }

    private String words(int t) {
        if (place(t) == null) {
            return "none";
        }
        BigDecimal number = BigDecimal.valueOf(round(t), 2);
        if (state.form == 1) {
            return number.toPlainString();
        }
        String plain = number.signum() == 0 ? "0" : number.stripTrailingZeros().toPlainString();
        return state.form == 2 && number.signum() > 0 ? "+" + plain : plain;
    }

    private static final class Refused extends Exception {
        private static final long serialVersionUID = 1L;
        private final int fault;
        private final int place;

        Refused(int fault, int place) {
            this.fault = fault;
            this.place = place;
        }
    }

    private static final class Parser {
        private static final Pattern TOKEN = Pattern.compile(" *([a-z]+|[0-9]+|[-.;]|\\z)");
        private final String told;
        private final Matcher matcher;
        private final State state = new State();
        private final Set<String> lines = new HashSet<>();
        private String token;
        private int place;

        Parser(String told) {
            this.told = told;
            this.matcher = TOKEN.matcher(told);
        }

        State parse() throws Refused {
            next(0);
            while (!token.isEmpty()) {
                line();
            }
            return state;
        }

        private void next(int from) throws Refused {
            matcher.region(from, told.length());
            if (!matcher.lookingAt()) {
                int bad = from;
                while (told.charAt(bad) == ' ') {
                    bad++;
                }
                throw new Refused(1, bad);
            }
            token = matcher.group(1);
            place = matcher.start(1);
            if (isNumber() && token.length() > 4) {
                throw new Refused(1, place);
            }
        }

        private String take() throws Refused {
            String taken = token;
            next(place + token.length());
            return taken;
        }

        private boolean isNumber() {
            return token.matches("[0-9]+");
        }

        private int number(int least, int greatest) throws Refused {
            if (!isNumber()) {
                throw new Refused(2, place);
            }
            int number = Integer.parseInt(token);
            if (number < least || number > greatest) {
                throw new Refused(3, place);
            }
            take();
            return number;
        }

        private int among(List<String> names) throws Refused {
            if (!names.contains(token)) {
                throw new Refused(2, place);
            }
            return names.indexOf(take());
        }

        private void line() throws Refused {
            if (!List.of("width", "need", "part", "rule", "form", "put").contains(token)) {
                throw new Refused(2, place);
            }
            if (!lines.add(token) && !token.equals("put")) {
                throw new Refused(4, place);
            }
            switch (take()) {
                case "width" -> state.width = number(1, 24);
                case "need" -> state.need = number(1, 24);
                case "part" -> {
                    state.p = number(0, 100);
                    state.q = number(Math.max(1, state.p), 100);
                }
                case "rule" -> state.rule = among(RULES);
                case "form" -> state.form = among(FORMS);
                default -> {
                    do {
                        reading();
                    } while (isNumber() || token.equals("-") || token.equals("miss"));
                }
            }
            if (!token.equals(";")) {
                throw new Refused(2, place);
            }
            take();
        }

        private void reading() throws Refused {
            if (!isNumber() && !token.equals("-") && !token.equals("miss")) {
                throw new Refused(2, place);
            }
            if (state.readings.size() == 96) {
                throw new Refused(5, place);
            }
            if (token.equals("miss")) {
                take();
                state.readings.add(null);
                return;
            }
            boolean minus = token.equals("-");
            if (minus) {
                take();
            }
            String figures = number(0, 9999) + ".";
            if (token.equals(".")) {
                take();
                if (isNumber() && token.length() > 2) {
                    throw new Refused(3, place);
                }
                String behind = token;
                number(0, 99);
                figures += behind;
            }
            BigDecimal value = new BigDecimal(figures + "0").movePointRight(2);
            state.readings.add(minus ? -value.intValueExact() : value.intValueExact());
        }
    }
}
