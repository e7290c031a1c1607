import java.math.BigInteger;
import java.util.ArrayDeque;
import java.util.ArrayList;
import java.util.Arrays;
import java.util.Collections;
import java.util.Deque;
import java.util.HashMap;
import java.util.List;
import java.util.Map;
import java.util.function.IntPredicate;

/**
 * The document once more, as plainly as can be and by other ways than the class goes: whole copies
 * of the state, trees of functions for texts, and the trying of all rows, ways and sets.
 */
final class Model {
    private static final int NONE = -1;
    private static final int NOTHING = -100000;

    /** A sum or a test is BROKEN. */
    static final class Broken extends RuntimeException {
        private static final long serialVersionUID = 1L;

        Broken() {
            super(null, null, false, false);
        }
    }

    static final class Fault extends RuntimeException {
        private static final long serialVersionUID = 1L;
        final int place;

        Fault(int place) {
            super(null, null, false, false);
            this.place = place;
        }
    }

    interface Sum {
        long of(Map<String, Integer> words);
    }

    interface Test {
        boolean of(Map<String, Integer> words);
    }

    record Clause(String head, Sum first, Sum second, int times, Test test) {
    }

    static final class Fort {
        int men;
        int general;
        int shown;
        boolean taken;

        Fort(int men, int general) {
            this.men = men;
            this.general = general;
        }

        Fort copy() {
            Fort f = new Fort(men, general);
            f.shown = shown;
            f.taken = taken;
            return f;
        }
    }

    static final class State {
        List<Fort> forts = new ArrayList<>();
        int[] fame = {50, 50, 50, 50};
        int[][] sign = {{5, 5, 5, 5, 5, 5}, {5, 5, 5, 5, 5, 5}, {1, 1, 1, 1, 1, 1}};
        int[][] road = new int[6][6];
        int[] terms = {0, 500, 0};
        List<List<Clause>> laws = new ArrayList<>();
        int force = NONE;
        List<int[]> sieges = new ArrayList<>();
        List<Integer> fires = new ArrayList<>();
        int[] needs = new int[6];
        List<int[]> counted = new ArrayList<>();

        State copy() {
            State s = new State();
            for (Fort f : forts) {
                s.forts.add(f.copy());
            }
            s.fame = fame.clone();
            for (int i = 0; i < 3; i++) {
                s.sign[i] = sign[i].clone();
            }
            for (int i = 0; i < 6; i++) {
                s.road[i] = road[i].clone();
            }
            s.terms = terms.clone();
            s.laws.addAll(laws);
            s.force = force;
            s.sieges.addAll(sieges);
            s.fires.addAll(fires);
            s.needs = needs.clone();
            s.counted.addAll(counted);
            return s;
        }
    }

    /** What is undone: which deed it was, and the forts, fames and day ahead of it. */
    record Undo(int deed, List<Fort> forts, int[] fame, int day) {
    }

    private State s = new State();
    private final State[] images = new State[2];
    private Deque<Undo> undo = new ArrayDeque<>();
    private byte[] tape = new byte[0];
    private int fault = NONE;
    private int stopped = NONE;
    private int brooms = 0;
    private State drawn = null;
    private int status = 0;
    private final Map<Integer, Integer> refused = new HashMap<>();

    private int done(int answer) {
        status = 0;
        return answer;
    }

    private int refuse(int by) {
        status = by;
        refused.merge(by, 1, Integer::sum);
        return by;
    }

    private static boolean in(int v, int low, int high) {
        return low <= v && v <= high;
    }

    private boolean isFort(int f) {
        return in(f, 0, s.forts.size() - 1);
    }

    // ---- the land

    int fort(int men, int general) {
        if (!in(men, 0, 99) || !in(general, 0, 3)) {
            return refuse(-1);
        }
        if (s.forts.size() == 6) {
            return refuse(-5);
        }
        undo.clear();
        s.forts.add(new Fort(men, general));
        return done(s.forts.size() - 1);
    }

    int of(int fort, int what) {
        if (!isFort(fort)) {
            return NONE;
        }
        Fort f = s.forts.get(fort);
        return switch (what) {
            case 0 -> f.men;
            case 1 -> f.general;
            case 2 -> f.shown;
            case 3 -> f.taken ? 1 : 0;
            case 4 -> (int) belief(f, f.shown);
            default -> NONE;
        };
    }

    int sign(int sign, int what, int value) {
        if (!in(sign, 0, 5) || !in(what, 0, 2) || !in(value, 0, what == 2 ? 99 : 10)) {
            return refuse(-1);
        }
        undo.clear();
        int was = s.sign[what][sign];
        s.sign[what][sign] = value;
        return done(was);
    }

    int road(int one, int other, int hours) {
        if (one == other || !in(hours, 0, 99)) {
            return refuse(-1);
        }
        if (!isFort(one) || !isFort(other)) {
            return refuse(-2);
        }
        int was = s.road[one][other];
        s.road[one][other] = hours;
        s.road[other][one] = hours;
        return done(was);
    }

    int fame(int general, int value) {
        if (!in(general, 0, 3) || !in(value, 0, 100)) {
            return refuse(-1);
        }
        undo.clear();
        int was = s.fame[general];
        s.fame[general] = value;
        return done(was);
    }

    int terms(int what, int value) {
        int[] most = {999, 1000, 9};
        if (!in(what, 0, 2) || !in(value, 0, most[what])) {
            return refuse(-1);
        }
        undo.clear();
        int was = s.terms[what];
        s.terms[what] = value;
        return done(was);
    }

    private BigInteger product(int which, int shown, int prior) {
        BigInteger product = BigInteger.valueOf(prior);
        for (int sign = 0; sign < 6; sign++) {
            boolean is = (shown & 1 << sign) != 0;
            int tenths = s.sign[which][sign];
            product = product.multiply(BigInteger.valueOf(is ? tenths : 10 - tenths));
        }
        return product;
    }

    private long belief(Fort f, int shown) {
        long even = s.terms[1] * 1000L;
        BigInteger full = product(0, shown, s.terms[1]);
        BigInteger both = full.add(product(1, shown, 1000 - s.terms[1]));
        long bySigns = both.signum() == 0 ? even
            : full.multiply(BigInteger.valueOf(1000000)).divide(both).longValueExact();
        return (s.fame[f.general] * bySigns + (100 - s.fame[f.general]) * even) / 100;
    }

    // ---- laws

    private Map<String, Integer> words(int fort, int sign, int army, int belief, int end) {
        Fort f = s.forts.get(fort);
        Map<String, Integer> words = new HashMap<>();
        words.put("fort", fort);
        words.put("men", f.men);
        words.put("general", f.general);
        words.put("known", s.fame[f.general]);
        words.put("sign", sign);
        words.put("army", army);
        words.put("belief", belief);
        words.put("end", end);
        words.put("day", s.terms[0]);
        words.put("mood", s.terms[2]);
        return words;
    }

    /** What all clauses of a head that hold tell, in their order. */
    private List<Long> told(String head, Map<String, Integer> words) {
        List<Long> all = new ArrayList<>();
        List<Clause> law = s.force == NONE ? List.of() : s.laws.get(s.force);
        for (Clause c : law) {
            if (!c.head().equals(head)) {
                continue;
            }
            try {
                if (c.test() == null || c.test().of(words)) {
                    all.add(c.first() == null ? 1L : c.first().of(words));
                }
            } catch (Broken e) {
                continue;
            }
        }
        return all;
    }

    private static int last(List<Long> told, int without, int low, int high) {
        if (told.isEmpty()) {
            return without;
        }
        long value = told.get(told.size() - 1);
        return (int) (value < low ? low : value > high ? high : value);
    }

    private int pays(int fort, int sign) {
        return last(told("pays", words(fort, sign, -1, -1, -1)), s.sign[2][sign], 0, 99);
    }

    private boolean barred(int fort, int sign) {
        return !told("bars", words(fort, sign, -1, -1, -1)).isEmpty();
    }

    private int threshold(int fort, int army, int shown) {
        int belief = (int) (belief(s.forts.get(fort), shown) / 10000);
        return last(told("turns", words(fort, -1, army, belief, -1)), 50, 0, 100);
    }

    private boolean turns(int fort, int army, int shown) {
        return belief(s.forts.get(fort), shown) >= threshold(fort, army, shown) * 10000L;
    }

    int asks(int fort, int other, int what) {
        if (!isFort(fort) || !in(what, 0, 3) || !(what < 2 ? in(other, 0, 5) : in(other, 1, 99))) {
            return NONE;
        }
        int shown = s.forts.get(fort).shown;
        return switch (what) {
            case 0 -> pays(fort, other);
            case 1 -> barred(fort, other) ? 1 : 0;
            case 2 -> threshold(fort, other, shown);
            default -> turns(fort, other, shown) ? 1 : 0;
        };
    }

    // ---- the tape

    int feed(int a, int b, int c, int d, int e) {
        if (tape.length + 20 > 400) {
            return NONE;
        }
        int at = tape.length;
        tape = Arrays.copyOf(tape, at + 20);
        for (int word : new int[] {a, b, c, d, e}) {
            byte[] four = java.nio.ByteBuffer.allocate(4).putInt(word).array();
            System.arraycopy(four, 0, tape, at, 4);
            at += 4;
        }
        return tape.length;
    }

    int end(int n) {
        if (!in(n, 0, tape.length)) {
            return NONE;
        }
        tape = Arrays.copyOf(tape, n);
        return n;
    }

    int row() {
        if (tape.length == 0) {
            return refuse(-6);
        }
        undo.clear();
        int came = 0;
        int swept = 0;
        for (int i = 0; i < tape.length; i += 2) {
            if (i + 1 == tape.length || !in(tape[i] & 255, 0, 99) || !in(tape[i + 1] & 255, 0, 3)
                || s.forts.size() == 6) {
                swept++;
            } else {
                s.forts.add(new Fort(tape[i] & 255, tape[i + 1] & 255));
                came++;
            }
        }
        brooms = swept;
        tape = new byte[0];
        return done(came);
    }

    int brooms() {
        return brooms;
    }

    // ---- reading

    record Token(String text, int place) {
    }

    private static String kindOf(char c) {
        return c >= 'a' && c <= 'z' ? "letter" : c >= '0' && c <= '9' ? "digit" : "other";
    }

    /** Reads a text from the left by asking which tokens may come next. */
    final class Text {
        private final Deque<Token> tokens = new ArrayDeque<>();
        private final boolean law;
        private int parts = 0;
        private int brackets = 0;

        Text(byte[] bytes, boolean law) {
            this.law = law;
            String text = new String(bytes, java.nio.charset.StandardCharsets.ISO_8859_1);
            String token = "";
            int from = 0;
            for (int i = 0; i <= text.length(); i++) {
                boolean goesOn = i < text.length() && !token.isEmpty() && !kindOf(text.charAt(i)).equals("other")
                    && kindOf(text.charAt(i)).equals(kindOf(token.charAt(0)));
                if (goesOn) {
                    token += text.charAt(i);
                    continue;
                }
                if (!token.isBlank() || token.length() == 1 && token.charAt(0) != ' ') {
                    tokens.add(new Token(token, from));
                }
                token = i < text.length() ? text.substring(i, i + 1) : "";
                from = i;
            }
            tokens.add(new Token("", text.length()));
        }

        private boolean sees(String... wanted) {
            return Arrays.asList(wanted).contains(tokens.peek().text());
        }

        private Fault fault() {
            return new Fault(tokens.peek().place());
        }

        private String take(String... wanted) {
            if (!sees(wanted)) {
                throw fault();
            }
            return tokens.size() == 1 ? tokens.peek().text() : tokens.poll().text();
        }

        private int number(int low, int high) {
            String t = tokens.peek().text();
            if (t.isEmpty() || !kindOf(t.charAt(0)).equals("digit")) {
                throw fault();
            }
            BigInteger value = new BigInteger(t);
            if (value.compareTo(BigInteger.valueOf(low)) < 0 || value.compareTo(BigInteger.valueOf(high)) > 0) {
                throw fault();
            }
            tokens.poll();
            return value.intValue();
        }

        List<Clause> clauses() {
            List<Clause> all = new ArrayList<>();
            all.add(clause());
            while (sees(";")) {
                take(";");
                if (all.size() == 12) {
                    throw fault();
                }
                all.add(clause());
            }
            take("");
            return all;
        }

        private Clause clause() {
            Sum first = null;
            Sum second = null;
            int times = 1;
            String head = law ? take("turns", "pays", "fame", "bars") : take("show", "hide", "march", "man");
            if (!head.equals("bars")) {
                first = sum();
            }
            if (!law) {
                take(head.equals("march") ? "to" : head.equals("man") ? "by" : "at");
                second = sum();
                if (sees("times")) {
                    take("times");
                    times = number(1, 20);
                }
            }
            Test test = null;
            if (sees("if")) {
                take("if");
                test = test();
            }
            return new Clause(head, first, second, times, test);
        }

        private Test test() {
            List<Test> any = new ArrayList<>(List.of(both()));
            while (sees("or")) {
                take("or");
                any.add(both());
            }
            return w -> any.stream().anyMatch(t -> t.of(w));
        }

        private Test both() {
            List<Test> all = new ArrayList<>(List.of(plain()));
            while (sees("and")) {
                take("and");
                all.add(plain());
            }
            return w -> all.stream().allMatch(t -> t.of(w));
        }

        private void open(String bracket) {
            if (brackets == 8) {
                throw fault();
            }
            take(bracket);
            brackets++;
        }

        private Test plain() {
            if (sees("not")) {
                take("not");
                Test test = plain();
                return w -> !test.of(w);
            }
            if (sees("(")) {
                open("(");
                Test test = test();
                take(")");
                brackets--;
                return test;
            }
            Sum one = sum();
            String sign = take("<", ">", "=");
            Sum other = sum();
            return w -> {
                long a = one.of(w);
                long b = other.of(w);
                return sign.equals("<") ? a < b : sign.equals(">") ? a > b : a == b;
            };
        }

        private Sum sum() {
            Sum sum = term();
            while (sees("+", "-")) {
                sum = joined(sum, take("+", "-"), term());
            }
            return sum;
        }

        private Sum term() {
            Sum sum = part();
            while (sees("*", "/", "%")) {
                sum = joined(sum, take("*", "/", "%"), part());
            }
            return sum;
        }

        private Sum joined(Sum one, String by, Sum other) {
            return w -> {
                BigInteger a = BigInteger.valueOf(one.of(w));
                BigInteger b = BigInteger.valueOf(other.of(w));
                if (b.signum() == 0 && (by.equals("/") || by.equals("%"))) {
                    throw new Broken();
                }
                BigInteger value = switch (by) {
                    case "+" -> a.add(b);
                    case "-" -> a.subtract(b);
                    case "*" -> a.multiply(b);
                    case "/" -> a.divide(b);
                    default -> a.remainder(b);
                };
                if (value.abs().compareTo(BigInteger.valueOf(1000000000)) > 0) {
                    throw new Broken();
                }
                return value.longValueExact();
            };
        }

        private Sum part() {
            if (sees("[")) {
                open("[");
                Sum sum = sum();
                take("]");
                brackets--;
                return sum;
            }
            if (parts == 50) {
                throw fault();
            }
            parts++;
            String t = tokens.peek().text();
            if (!t.isEmpty() && kindOf(t.charAt(0)).equals("digit")) {
                int value = number(0, 1000);
                return w -> value;
            }
            String word = word();
            return w -> w.get(word);
        }

        private String word() {
            if (law) {
                return take("fort", "men", "general", "known", "sign", "army", "belief", "end", "day", "mood");
            }
            String word = take("day", "done", "latest", "men", "shown", "fame");
            if (word.equals("men") || word.equals("shown")) {
                return word + number(0, 5);
            }
            return word.equals("fame") ? word + number(0, 3) : word;
        }
    }

    private List<Clause> read(boolean law) {
        byte[] bytes = tape;
        tape = new byte[0];
        try {
            List<Clause> clauses = new Text(bytes, law).clauses();
            fault = NONE;
            return clauses;
        } catch (Fault f) {
            fault = f.place;
            return null;
        }
    }

    int law() {
        if (s.laws.size() == 6) {
            tape = new byte[0];
            return refuse(-5);
        }
        List<Clause> law = read(true);
        if (law == null) {
            return refuse(-6);
        }
        s.laws.add(law);
        return done(s.laws.size() - 1);
    }

    int orders() {
        stopped = NONE;
        List<Clause> orders = read(false);
        if (orders == null) {
            return refuse(-6);
        }
        State ahead = s.copy();
        Deque<Undo> undoAhead = new ArrayDeque<>(undo);
        int run = 0;
        int latest = -1;
        for (int c = 0; c < orders.size(); c++) {
            Clause clause = orders.get(c);
            for (int t = 0; t < clause.times(); t++) {
                Map<String, Integer> words = orderWords(run, latest);
                int answer;
                try {
                    if (clause.test() != null && !clause.test().of(words)) {
                        continue;
                    }
                } catch (Broken e) {
                    continue;
                }
                try {
                    int first = (int) clause.first().of(words);
                    int second = (int) clause.second().of(words);
                    answer = switch (clause.head()) {
                        case "show" -> deed(0, second, first);
                        case "hide" -> deed(1, second, first);
                        case "man" -> deed(2, first, second);
                        default -> deed(3, second, first);
                    };
                } catch (Broken e) {
                    answer = -3;
                }
                if (answer < 0) {
                    s = ahead;
                    undo = undoAhead;
                    stopped = c;
                    return refuse(-3);
                }
                run++;
                if (clause.head().equals("march")) {
                    latest = answer;
                }
            }
        }
        return done(run);
    }

    private Map<String, Integer> orderWords(int run, int latest) {
        Map<String, Integer> words = new HashMap<>();
        words.put("day", s.terms[0]);
        words.put("done", run);
        words.put("latest", latest);
        for (int f = 0; f < 6; f++) {
            words.put("men" + f, isFort(f) ? s.forts.get(f).men : -1);
            words.put("shown" + f, isFort(f) ? s.forts.get(f).shown : -1);
        }
        for (int g = 0; g < 4; g++) {
            words.put("fame" + g, s.fame[g]);
        }
        return words;
    }

    int fault() {
        return fault;
    }

    int stopped() {
        return stopped;
    }

    int force(int law) {
        if (law != NONE && !in(law, 0, s.laws.size() - 1)) {
            return refuse(-2);
        }
        int was = s.force;
        s.force = law;
        return done(was);
    }

    // ---- deeds

    private int deed(int which, int fort, int value) {
        List<Fort> forts = new ArrayList<>();
        for (Fort f : s.forts) {
            forts.add(f.copy());
        }
        Undo ahead = new Undo(which, forts, s.fame.clone(), s.terms[0]);
        int answer = switch (which) {
            case 0 -> tryShow(fort, value);
            case 1 -> tryHide(fort, value);
            case 2 -> tryMan(fort, value);
            default -> tryMarch(value, fort);
        };
        if (answer >= 0) {
            undo.addLast(ahead);
            if (undo.size() > 16) {
                undo.removeFirst();
            }
        }
        return answer;
    }

    private int tryShow(int fort, int sign) {
        if (!in(sign, 0, 5)) {
            return -1;
        }
        if (!isFort(fort)) {
            return -2;
        }
        Fort f = s.forts.get(fort);
        if (f.taken || (f.shown & 1 << sign) != 0 || barred(fort, sign)) {
            return -3;
        }
        int pays = pays(fort, sign);
        f.shown += 1 << sign;
        return pays;
    }

    private int tryHide(int fort, int sign) {
        if (!in(sign, 0, 5)) {
            return -1;
        }
        if (!isFort(fort)) {
            return -2;
        }
        Fort f = s.forts.get(fort);
        if (f.taken || (f.shown & 1 << sign) == 0) {
            return -3;
        }
        f.shown -= 1 << sign;
        return f.shown;
    }

    private int tryMan(int fort, int by) {
        if (!in(by, -99, 99)) {
            return -1;
        }
        if (!isFort(fort)) {
            return -2;
        }
        Fort f = s.forts.get(fort);
        if (f.taken || !in(f.men + by, 0, 99)) {
            return -3;
        }
        f.men += by;
        return f.men;
    }

    private int tryMarch(int army, int fort) {
        if (!in(army, 1, 99)) {
            return -1;
        }
        if (!isFort(fort)) {
            return -2;
        }
        Fort f = s.forts.get(fort);
        if (f.taken || s.terms[0] >= 999) {
            return -3;
        }
        int told = 0;
        if (turns(fort, army, f.shown)) {
            told = 1;
        } else if (army > f.men) {
            told = 2;
            f.taken = true;
        } else {
            f.men -= army / 3;
        }
        int belief = (int) (belief(f, f.shown) / 10000);
        int change = last(told("fame", words(fort, -1, army, belief, told)), 0, -20, 20);
        s.fame[f.general] = Math.min(100, Math.max(0, s.fame[f.general] + change));
        s.terms[0]++;
        return told;
    }

    private int settle(int answer) {
        return answer < 0 ? refuse(answer) : done(answer);
    }

    int show(int fort, int sign) {
        return settle(deed(0, fort, sign));
    }

    int hide(int fort, int sign) {
        return settle(deed(1, fort, sign));
    }

    int man(int fort, int by) {
        return settle(deed(2, fort, by));
    }

    int march(int army, int fort) {
        return settle(deed(3, fort, army));
    }

    int undo() {
        if (undo.isEmpty()) {
            return refuse(-3);
        }
        Undo latest = undo.removeLast();
        s.forts = latest.forts();
        s.fame = latest.fame();
        s.terms[0] = latest.day();
        return done(latest.deed());
    }

    // ---- on paper

    int bluff(int fort, int army, int what) {
        if (!isFort(fort) || !in(army, 1, 99) || !in(what, 0, 1) || s.forts.get(fort).taken) {
            return NONE;
        }
        List<int[]> shows = new ArrayList<>();
        for (int set = 63; set >= 0; set--) {
            int price = 0;
            boolean can = turns(fort, army, set);
            for (int sign = 0; sign < 6; sign++) {
                if ((set & 1 << sign) != 0) {
                    price += pays(fort, sign);
                    can &= !barred(fort, sign) || (s.forts.get(fort).shown & 1 << sign) != 0;
                }
            }
            if (can) {
                shows.add(new int[] {price, set});
            }
        }
        return shows.isEmpty() ? NONE : Collections.min(shows, Arrays::compare)[what];
    }

    int scout(int fort, int what) {
        if (!isFort(fort) || !in(what, 0, 1)) {
            return NONE;
        }
        Fort f = s.forts.get(fort);
        List<int[]> all = new ArrayList<>();
        for (int sign = 0; sign < 6; sign++) {
            boolean is = (f.shown & 1 << sign) != 0;
            long other = belief(f, is ? f.shown - (1 << sign) : f.shown + (1 << sign));
            all.add(new int[] {-(int) Math.abs(belief(f, f.shown) - other), sign});
        }
        int[] best = Collections.min(all, Arrays::compare);
        return what == 0 ? best[1] : -best[0];
    }

    long holds(int fort, int n) {
        if (!isFort(fort) || !in(n, 0, 30) || s.forts.get(fort).taken) {
            return NONE;
        }
        int not = 0;
        for (int army : new int[] {9, 19, 29, 39, 49, 59, 69, 79, 89, 99}) {
            boolean takes = !turns(fort, army, s.forts.get(fort).shown) && army > s.forts.get(fort).men;
            not += takes ? 0 : 1;
        }
        BigInteger chance = BigInteger.TEN.pow(12);
        for (int i = 0; i < n; i++) {
            chance = chance.multiply(BigInteger.valueOf(not)).divide(BigInteger.TEN);
        }
        return chance.longValueExact();
    }

    private void ways(List<Integer> way, int to, List<List<Integer>> all) {
        int at = way.get(way.size() - 1);
        if (at == to) {
            all.add(new ArrayList<>(way));
            return;
        }
        if (way.size() > 1 && s.forts.get(at).taken) {
            return;
        }
        for (int f = 0; f < s.forts.size(); f++) {
            if (s.road[at][f] > 0 && !way.contains(f)) {
                way.add(f);
                ways(way, to, all);
                way.remove(way.size() - 1);
            }
        }
    }

    private int hours(List<Integer> way) {
        int hours = 0;
        for (int i = 1; i < way.size(); i++) {
            hours += s.road[way.get(i - 1)][way.get(i)];
        }
        return hours;
    }

    int retreat(int from, int to, int i) {
        if (!isFort(from) || !isFort(to) || from == to || i < NONE) {
            return NONE;
        }
        List<List<Integer>> all = new ArrayList<>();
        ways(new ArrayList<>(List.of(from)), to, all);
        if (all.isEmpty()) {
            return NONE;
        }
        // Ways are found in the order of their rows of forts, so the first of the quickest is the lowest.
        List<Integer> best = all.get(0);
        for (List<Integer> way : all) {
            if (hours(way) < hours(best)) {
                best = way;
            }
        }
        return i == NONE ? hours(best) : i < best.size() - 1 ? best.get(i + 1) : NONE;
    }

    int game(int a0, int a1, int b0, int b1, int what) {
        int[][] e = {{a0, a1}, {b0, b1}};
        for (int[] row : e) {
            for (int v : row) {
                if (!in(v, -99, 99)) {
                    return NOTHING;
                }
            }
        }
        if (!in(what, 0, 3)) {
            return NOTHING;
        }
        for (int r = 0; r < 2; r++) {
            for (int c = 0; c < 2; c++) {
                if (e[r][c] == Math.min(e[r][0], e[r][1]) && e[r][c] == Math.max(e[0][c], e[1][c])) {
                    return new int[] {1 - r, 1, e[r][c], 1}[what];
                }
            }
        }
        int m = a0 - a1 + b1 - b0;
        int above = what < 2 ? b1 - b0 : a0 * b1 - a1 * b0;
        for (int d = Math.abs(m); d > 0; d--) {
            if (above % d == 0 && m % d == 0) {
                int sign = m < 0 ? -1 : 1;
                return sign * (what % 2 == 0 ? above : m) / d;
            }
        }
        return NOTHING;
    }

    int siege(int cost, int name, int gain) {
        if (!in(cost, 0, 99) || !in(name, 0, 10) || !in(gain, 0, 999)) {
            return refuse(-1);
        }
        if (s.sieges.size() == 8) {
            return refuse(-5);
        }
        s.sieges.add(new int[] {cost, name, gain});
        return done(s.sieges.size() - 1);
    }

    int career(int name, int what) {
        int n = s.sieges.size();
        if (!in(name, 0, 10) || !in(what, 0, n)) {
            return NOTHING;
        }
        int most = Integer.MIN_VALUE;
        int best = 0;
        // The first siege is the highest bit, so rows come in their order.
        for (int row = 0; row < 1 << n; row++) {
            int sum = 0;
            int has = name;
            for (int k = 0; k < n; k++) {
                int[] siege = s.sieges.get(k);
                if ((row >> n - 1 - k & 1) == 0) {
                    sum -= siege[0];
                    has = has == 10 ? 10 : has + 1;
                } else {
                    sum += has >= siege[1] ? siege[2] : -siege[2];
                    has = 0;
                }
            }
            if (sum > most) {
                most = sum;
                best = row;
            }
        }
        return what == 0 ? most : best >> n - what & 1;
    }

    int fire(int hills) {
        if (!in(hills, 0, 63)) {
            return refuse(-1);
        }
        if (s.fires.size() == 10) {
            return refuse(-5);
        }
        s.fires.add(hills);
        return done(s.fires.size() - 1);
    }

    int needs(int hill, int value) {
        if (!in(hill, 0, 5) || !in(value, 0, 9)) {
            return refuse(-1);
        }
        int was = s.needs[hill];
        s.needs[hill] = value;
        return done(was);
    }

    private int seen(int hill, int set) {
        int seen = 0;
        for (int f = 0; f < s.fires.size(); f++) {
            if ((set & 1 << f) != 0 && (s.fires.get(f) & 1 << hill) != 0) {
                seen++;
            }
        }
        return seen;
    }

    private List<Integer> sets(IntPredicate wanted) {
        List<Integer> all = new ArrayList<>();
        for (int set = 0; set < 1 << s.fires.size(); set++) {
            if (wanted.test(set)) {
                all.add(set);
            }
        }
        return all;
    }

    int enough(int what) {
        if (!in(what, 0, 1)) {
            return NONE;
        }
        List<Integer> good = sets(set -> {
            for (int hill = 0; hill < 6; hill++) {
                if (seen(hill, set) < s.needs[hill]) {
                    return false;
                }
            }
            return true;
        });
        for (int many = 0; many <= 10; many++) {
            for (int set : good) {
                if (Integer.bitCount(set) == many) {
                    return what == 0 ? many : set;
                }
            }
        }
        return NONE;
    }

    int counted(int hill, int many) {
        if (!in(hill, 0, 5) || !in(many, 0, 9)) {
            return refuse(-1);
        }
        if (s.counted.size() == 8) {
            return refuse(-5);
        }
        s.counted.add(new int[] {hill, many});
        return done(s.counted.size());
    }

    int forget() {
        int all = s.sieges.size() + s.fires.size() + s.counted.size();
        s.sieges.clear();
        s.fires.clear();
        s.counted.clear();
        return all;
    }

    private List<Integer> fitting() {
        return sets(set -> s.counted.stream().allMatch(c -> seen(c[0], set) == c[1]));
    }

    int fits(int i) {
        List<Integer> all = fitting();
        return i == NONE ? all.size() : in(i, 0, all.size() - 1) ? all.get(i) : NONE;
    }

    int next(int what) {
        List<Integer> all = fitting();
        if (!in(what, 0, 1) || all.isEmpty()) {
            return NONE;
        }
        List<int[]> hills = new ArrayList<>();
        for (int hill = 0; hill < 6; hill++) {
            Map<Integer, Integer> left = new HashMap<>();
            for (int set : all) {
                left.merge(seen(hill, set), 1, Integer::sum);
            }
            hills.add(new int[] {Collections.max(left.values()), hill});
        }
        return Collections.min(hills, Arrays::compare)[1 - what];
    }

    int sieges(int seed, int n) {
        if (!in(seed, 0, 1000000) || !in(n, 1, 60)) {
            return refuse(-1);
        }
        if (s.forts.isEmpty()) {
            return refuse(-3);
        }
        State ahead = s;
        s = s.copy();
        int turned = 0;
        long x = seed;
        for (int i = 0; i < n; i++) {
            x = (x * 1103 + 12345) % 1000003;
            int fort = (int) (x % s.forts.size());
            x = (x * 1103 + 12345) % 1000003;
            int army = (int) (x % 99) + 1;
            x = (x * 1103 + 12345) % 1000003;
            int sign = (int) (x % 6);
            if (tryHide(fort, sign) < 0) {
                tryShow(fort, sign);
            }
            turned += tryMarch(army, fort) == 1 ? 1 : 0;
        }
        drawn = s;
        s = ahead;
        return done(turned);
    }

    int drawn(int k, int what) {
        if (drawn == null || !in(what, 0, 3) || !in(k, 0, what == 3 ? 3 : drawn.forts.size() - 1)) {
            return NONE;
        }
        if (what == 3) {
            return drawn.fame[k];
        }
        Fort f = drawn.forts.get(k);
        return what == 0 ? f.men : what == 1 ? f.taken ? 1 : 0 : f.shown;
    }

    int image(int k) {
        if (!in(k, 0, 1)) {
            return refuse(-1);
        }
        images[k] = s.copy();
        return done(0);
    }

    int back(int k) {
        if (!in(k, 0, 1)) {
            return refuse(-1);
        }
        if (images[k] == null) {
            return refuse(-2);
        }
        s = images[k].copy();
        undo.clear();
        return done(0);
    }

    int count(int what) {
        return switch (what) {
            case 0 -> s.forts.size();
            case 1 -> (int) s.forts.stream().filter(f -> f.taken).count();
            case 2 -> s.sieges.size();
            case 3 -> s.fires.size();
            case 4 -> s.counted.size();
            case 5 -> s.laws.size();
            case 6 -> undo.size();
            case 7 -> tape.length;
            case 8 -> refused.getOrDefault(-1, 0);
            case 9 -> refused.getOrDefault(-2, 0);
            case 10 -> refused.getOrDefault(-3, 0);
            case 11 -> refused.getOrDefault(-5, 0);
            case 12 -> refused.getOrDefault(-6, 0);
            case 13 -> s.force;
            case 14, 15, 16 -> s.terms[what - 14];
            case 17, 18, 19, 20 -> s.fame[what - 17];
            default -> NONE;
        };
    }

    int status() {
        return status;
    }
}
