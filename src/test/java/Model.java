import java.util.ArrayDeque;
import java.util.ArrayList;
import java.util.Arrays;
import java.util.Deque;
import java.util.HashMap;
import java.util.HashSet;
import java.util.LinkedHashMap;
import java.util.List;
import java.util.Map;
import java.util.PriorityQueue;
import java.util.Set;

/** The document once more, written in another way than the class, to be compared with it. */
final class Model {
    record Token(String text, char kind, int place) { }

    record Telling(int place, int d, int e, boolean so) { }

    static final class DividedByZero extends RuntimeException {
        private static final long serialVersionUID = 1L;
    }

    /** What goes on, as one value that is copied. */
    static final class State {
        int[] into = new int[0];
        boolean[] dammed = new boolean[0];
        int[] won = new int[0];
        int[] money = new int[0];
        int month;
        int rules;

        State copy() {
            State s = new State();
            s.into = into.clone();
            s.dammed = dammed.clone();
            s.won = won.clone();
            s.money = money.clone();
            s.month = month;
            s.rules = rules;
            return s;
        }
    }

    /** What a text tells. */
    static final class Text {
        List<String> names = new ArrayList<>();
        List<Integer> into = new ArrayList<>();
        List<Integer> length = new ArrayList<>();
        List<Integer> rain = new ArrayList<>();
        List<Integer> tale = new ArrayList<>();
        Map<String, List<Token>> laws = new HashMap<>();
        int chance;
        int more;
        int prize = 1;
        int seed;
    }

    private static final Set<String> WORDS = Set.of("mouth", "place", "rains", "dries", "one", "two", "three",
        "storm", "prize", "seed", "if", "then", "else", "rain", "far", "tale", "month", "flow", "length", "won",
        "which", "above");
    private static final List<String> VARS =
        List.of("rain", "far", "tale", "month", "flow", "length", "won", "which", "above");
    private static final String[] RULING = {"one", "two", "three"};

    private static final Map<String, String[]> GRAMMAR = new LinkedHashMap<>();

    static {
        GRAMMAR.put("TEXT", new String[] {"", "TELL TEXT"});
        GRAMMAR.put("TELL", new String[] {"mouth NAME ;", "place NAME NAME INT INT INT ;", "rains LAW ;",
            "dries LAW ;", "one LAW ;", "two LAW ;", "three LAW ;", "storm INT INT ;", "prize INT ;", "seed INT ;"});
        GRAMMAR.put("LAW", new String[] {"= IFS"});
        GRAMMAR.put("IFS", new String[] {"E", "if E < E then E else IFS"});
        GRAMMAR.put("E", new String[] {"PART ES"});
        GRAMMAR.put("ES", new String[] {"", "+ PART ES", "- PART ES"});
        GRAMMAR.put("PART", new String[] {"UNIT PS"});
        GRAMMAR.put("PS", new String[] {"", "* UNIT PS", "/ UNIT PS"});
        GRAMMAR.put("UNIT", new String[] {"INT", "VAR", "( E )"});
    }

    Text text = new Text();
    State now = new State();
    final Deque<State> past = new ArrayDeque<>();
    final State[] slots = new State[3];
    final List<Telling> tellings = new ArrayList<>();
    String tape = "";
    int faultPlace = -1;

    // ---- texts

    static List<Token> tokens(String text) {
        List<Token> all = new ArrayList<>();
        int at = 0;
        while (at < text.length()) {
            char c = text.charAt(at);
            int from = at;
            if (c == 9 || c == 10 || c == 13 || c == 32) {
                at++;
                continue;
            }
            if (c >= 'a' && c <= 'z') {
                while (at < text.length() && text.charAt(at) >= 'a' && text.charAt(at) <= 'z') {
                    at++;
                }
                String word = text.substring(from, at);
                char kind = word.length() > 8 ? '?' : VARS.contains(word) ? 'v' : WORDS.contains(word) ? 'w' : 'n';
                all.add(new Token(word, kind, from));
            } else if (c >= '0' && c <= '9') {
                while (at < text.length() && text.charAt(at) >= '0' && text.charAt(at) <= '9') {
                    at++;
                }
                String number = text.substring(from, at);
                all.add(new Token(number, number.length() > 4 ? '?' : 'i', from));
            } else {
                at++;
                all.add(new Token("" + c, ";=+-*/<()".indexOf(c) >= 0 ? 's' : '?', from));
            }
        }
        return all;
    }

    private static boolean matches(String symbol, Token token) {
        return switch (symbol) {
            case "NAME" -> token.kind == 'n';
            case "INT" -> token.kind == 'i';
            case "VAR" -> token.kind == 'v';
            default -> (token.kind == 'w' || token.kind == 's') && symbol.equals(token.text);
        };
    }

    /** All stacks that begin with a terminal, or are empty, that these can become. */
    private static Set<List<String>> expanded(Set<List<String>> stacks) {
        Set<List<String>> seen = new HashSet<>();
        Deque<List<String>> todo = new ArrayDeque<>(stacks);
        Set<List<String>> ready = new HashSet<>();
        while (!todo.isEmpty()) {
            List<String> stack = todo.pop();
            if (!seen.add(stack)) {
                continue;
            }
            if (stack.isEmpty() || !GRAMMAR.containsKey(stack.get(0))) {
                ready.add(stack);
                continue;
            }
            for (String rule : GRAMMAR.get(stack.get(0))) {
                List<String> next = new ArrayList<>();
                for (String symbol : rule.split(" ")) {
                    if (!symbol.isEmpty()) {
                        next.add(symbol);
                    }
                }
                next.addAll(stack.subList(1, stack.size()));
                todo.push(next);
            }
        }
        return ready;
    }

    /** The fault of a text and its place; 0 and -1 without. */
    static int[] fault(String text) {
        List<Token> all = tokens(text);
        Set<List<String>> stacks = expanded(Set.of(List.of("TEXT")));
        int mouths = 0;
        int places = 0;
        int ifs = 0;
        int open = 0;
        for (int i = 0; i < all.size(); i++) {
            Token t = all.get(i);
            Set<List<String>> next = new HashSet<>();
            for (List<String> stack : stacks) {
                if (!stack.isEmpty() && t.kind != '?' && matches(stack.get(0), t)) {
                    next.add(stack.subList(1, stack.size()));
                }
            }
            if (next.isEmpty()) {
                return new int[] {1, t.place};
            }
            stacks = expanded(next);
            boolean room = i < 400;
            switch (t.text) {
                case "mouth" -> room &= ++mouths <= 1;
                case "place" -> room &= ++places <= 11;
                case "=" -> ifs = 0;
                case "if" -> room &= ++ifs <= 4;
                case "(" -> room &= ++open <= 6;
                case ")" -> open--;
                default -> { }
            }
            if (!room) {
                return new int[] {2, t.place};
            }
        }
        if (!stacks.contains(List.of())) {
            return new int[] {1, text.length()};
        }
        return meaningFault(sentences(all));
    }

    private static List<List<Token>> sentences(List<Token> all) {
        List<List<Token>> out = new ArrayList<>();
        List<Token> one = new ArrayList<>();
        for (Token t : all) {
            one.add(t);
            if (t.text.equals(";")) {
                out.add(one);
                one = new ArrayList<>();
            }
        }
        return out;
    }

    private static int[] meaningFault(List<List<Token>> sentences) {
        Set<String> names = new HashSet<>();
        for (List<Token> s : sentences) {
            String word = s.get(0).text;
            if (word.equals("mouth") || word.equals("place")) {
                if (names.contains(s.get(1).text)) {
                    return new int[] {3, s.get(1).place};
                }
            }
            if (word.equals("place")) {
                if (!names.contains(s.get(2).text)) {
                    return new int[] {4, s.get(2).place};
                }
                for (int i = 3; i <= 5; i++) {
                    int value = Integer.parseInt(s.get(i).text);
                    if (value > 99 || i == 3 && value < 1) {
                        return new int[] {5, s.get(i).place};
                    }
                }
            }
            if (word.equals("mouth") || word.equals("place")) {
                names.add(s.get(1).text);
            }
            if (word.equals("storm") && Integer.parseInt(s.get(1).text) > 100) {
                return new int[] {5, s.get(1).place};
            }
            if (word.equals("storm") && Integer.parseInt(s.get(2).text) > 99) {
                return new int[] {5, s.get(2).place};
            }
            if (word.equals("prize") && Integer.parseInt(s.get(1).text) > 99) {
                return new int[] {5, s.get(1).place};
            }
        }
        return new int[] {0, -1};
    }

    int read() {
        String all = tape;
        tape = "";
        int[] fault = fault(all);
        faultPlace = fault[1];
        if (fault[0] != 0) {
            return fault[0];
        }
        text = new Text();
        for (List<Token> s : sentences(tokens(all))) {
            tellOne(s);
        }
        now = new State();
        int n = text.names.size();
        now.into = new int[n];
        for (int p = 0; p < n; p++) {
            now.into[p] = text.into.get(p);
        }
        now.dammed = new boolean[n];
        now.won = new int[n];
        now.money = new int[n];
        past.clear();
        tellings.clear();
        Arrays.fill(slots, null);
        return 0;
    }

    private void tellOne(List<Token> s) {
        switch (s.get(0).text) {
            case "mouth" -> addPlace(s.get(1).text, 0, 0, 0, 0);
            case "place" -> addPlace(s.get(1).text, text.names.indexOf(s.get(2).text), Integer.parseInt(s.get(3).text),
                Integer.parseInt(s.get(4).text), Integer.parseInt(s.get(5).text));
            case "storm" -> {
                text.chance = Integer.parseInt(s.get(1).text);
                text.more = Integer.parseInt(s.get(2).text);
            }
            case "prize" -> text.prize = Integer.parseInt(s.get(1).text);
            case "seed" -> text.seed = Integer.parseInt(s.get(1).text);
            default -> text.laws.put(s.get(0).text, s.subList(2, s.size() - 1));
        }
    }

    private void addPlace(String name, int into, int length, int rain, int tale) {
        text.names.add(name);
        text.into.add(into);
        text.length.add(length);
        text.rain.add(rain);
        text.tale.add(tale);
    }

    // ---- laws

    private final class Eval {
        final List<Token> law;
        final Map<String, Integer> vars;
        int at = 0;

        Eval(List<Token> law, Map<String, Integer> vars) {
            this.law = law;
            this.vars = vars;
        }

        String peek() {
            return at < law.size() ? law.get(at).text : "";
        }

        int whole() {
            try {
                while (peek().equals("if")) {
                    at++;
                    int left = sum();
                    at++;
                    int right = sum();
                    at++;
                    if (left < right) {
                        return sum();
                    }
                    while (!peek().equals("else")) {
                        at++;
                    }
                    at++;
                }
                return sum();
            } catch (DividedByZero z) {
                return 0;
            }
        }

        int sum() {
            int value = product();
            while (peek().equals("+") || peek().equals("-")) {
                boolean plus = law.get(at++).text.equals("+");
                int more = product();
                value = plus ? value + more : value - more;
            }
            return value;
        }

        int product() {
            int value = unit();
            while (peek().equals("*") || peek().equals("/")) {
                boolean times = law.get(at++).text.equals("*");
                int by = unit();
                if (!times && by == 0) {
                    throw new DividedByZero();
                }
                value = times ? value * by : value / by;
            }
            return value;
        }

        int unit() {
            Token t = law.get(at++);
            if (t.kind == 'i') {
                return Integer.parseInt(t.text);
            }
            if (t.kind == 'v') {
                return vars.get(t.text);
            }
            int value = sum();
            at++;
            return value;
        }
    }

    int law(State s, String which, int p, int flow) {
        Map<String, Integer> vars = new HashMap<>();
        vars.put("rain", text.rain.get(p));
        vars.put("far", far(s, p));
        vars.put("tale", text.tale.get(p));
        vars.put("month", s.month % 12);
        vars.put("flow", flow);
        vars.put("length", text.length.get(p));
        vars.put("won", s.won[p]);
        vars.put("which", p);
        vars.put("above", above(s, p));
        List<Token> law = text.laws.get(which);
        if (law == null) {
            return switch (which) {
                case "rains" -> vars.get("rain");
                case "dries" -> 0;
                case "one" -> vars.get("far");
                case "two" -> vars.get("flow");
                default -> vars.get("tale");
            };
        }
        return new Eval(law, vars).whole();
    }

    // ---- the river

    int n() {
        return text.names.size();
    }

    int far(State s, int p) {
        return p == 0 ? 0 : text.length.get(p) + far(s, s.into[p]);
    }

    boolean by(State s, int from, int p) {
        return from == p || from != 0 && by(s, s.into[from], p);
    }

    int above(State s, int p) {
        int many = 0;
        for (int q = 0; q < n(); q++) {
            if (q != p && by(s, q, p)) {
                many++;
            }
        }
        return many;
    }

    boolean isPlace(int p) {
        return p >= 0 && p < n();
    }

    boolean isSource(State s, int p) {
        return p > 0 && p < n() && above(s, p) == 0;
    }

    int rains(State s, int p) {
        return Math.min(999, Math.max(0, law(s, "rains", p, 0)));
    }

    int flow(State s, int p, int more) {
        int sum = rains(s, p) + more;
        for (int q = 1; q < n(); q++) {
            if (s.into[q] == p && !s.dammed[q]) {
                int comes = flow(s, q, more);
                sum += comes - dries(s, q, comes);
            }
        }
        return sum;
    }

    int dries(State s, int p, int flow) {
        return Math.max(0, Math.min(flow, law(s, "dries", p, flow)));
    }

    int claim(State s, int p, int law, int more) {
        return Math.max(0, Math.min(99999, law(s, RULING[law], p, flow(s, p, more))));
    }

    /** The sources by a law, the winner first. */
    List<Integer> ranking(State s, int law, int more) {
        List<Integer> sources = new ArrayList<>();
        Map<Integer, Integer> claims = new HashMap<>();
        for (int p = 1; p < n(); p++) {
            if (isSource(s, p)) {
                sources.add(p);
                claims.put(p, claim(s, p, law, more));
            }
        }
        sources.sort((a, b) -> claims.get(a).equals(claims.get(b)) ? a - b : claims.get(b) - claims.get(a));
        return sources;
    }

    int winner(State s, int law, int more) {
        List<Integer> all = ranking(s, law, more);
        return all.isEmpty() ? -2 : all.get(0);
    }

    static int lot(int n, int seed, int which) {
        int h = seed;
        for (int it : new int[] {147, which}) {
            h = (h ^ it) * 1103515245 + 12345;
            h ^= h >>> 15;
        }
        return (h >>> 1) % n;
    }

    int storm(State s, int seed) {
        return lot(100, seed, 4 * s.month) < text.chance ? text.more : 0;
    }

    int passMonth(State s, int more) {
        int w = winner(s, s.rules, more);
        if (w > 0) {
            s.money[w] += text.prize;
            s.won[w] = Math.min(999, s.won[w] + 1);
        }
        s.month++;
        return w;
    }

    State in(int n, int seed) {
        State s = now.copy();
        for (int i = 0; i < n; i++) {
            passMonth(s, storm(s, seed));
        }
        return s;
    }

    State dammed(State s, int... more) {
        State t = s.copy();
        for (int p : more) {
            t.dammed[p] = true;
        }
        return t;
    }

    // ---- tours, by all ways there are

    int tour(State s, int wanted) {
        if (wanted == 0) {
            return 0;
        }
        Map<Long, Integer> best = new HashMap<>();
        PriorityQueue<long[]> queue = new PriorityQueue<>((a, b) -> Long.compare(a[0], b[0]));
        queue.add(new long[] {0, 0, 0});
        while (!queue.isEmpty()) {
            long[] at = queue.poll();
            int p = (int) at[1];
            int seen = (int) at[2];
            if (seen == wanted) {
                return (int) at[0];
            }
            long key = at[1] << 32 | at[2];
            if (best.containsKey(key)) {
                continue;
            }
            best.put(key, (int) at[0]);
            for (int q = 0; q < n(); q++) {
                boolean up = q != 0 && s.into[q] == p;
                boolean down = p != 0 && s.into[p] == q;
                if (up || down) {
                    int length = text.length.get(up ? q : p);
                    queue.add(new long[] {at[0] + length, q, seen | (1 << q & wanted)});
                }
            }
        }
        return -99;
    }

    int sources(State s) {
        int bits = 0;
        for (int p = 1; p < n(); p++) {
            bits |= isSource(s, p) ? 1 << p : 0;
        }
        return bits;
    }

    int parted() {
        int all = sources(now);
        int least = Integer.MAX_VALUE;
        for (int one = all; ; one = one - 1 & all) {
            least = Math.min(least, Math.max(tour(now, one), tour(now, all ^ one)));
            if (one == 0) {
                return least;
            }
        }
    }

    int order(State s, int p) {
        List<Integer> orders = new ArrayList<>();
        for (int q = 1; q < n(); q++) {
            if (s.into[q] == p) {
                orders.add(order(s, q));
            }
        }
        if (orders.isEmpty()) {
            return 1;
        }
        orders.sort((a, b) -> b - a);
        return orders.size() > 1 && orders.get(0).equals(orders.get(1)) ? orders.get(0) + 1 : orders.get(0);
    }

    int steps(State s, int p) {
        return p == 0 ? 1 : 1 + steps(s, s.into[p]);
    }

    boolean fits(int source, int k) {
        for (Telling t : tellings.subList(0, k)) {
            int lengths = far(now, source) - far(now, t.place);
            boolean so = by(now, source, t.place) && lengths >= t.d && lengths <= t.e;
            if (so != t.so) {
                return false;
            }
        }
        return true;
    }

    int left(int k) {
        int bits = 0;
        for (int p = 1; p < n(); p++) {
            bits |= isSource(now, p) && fits(p, k) ? 1 << p : 0;
        }
        return bits;
    }

    // ---- the dams, all sets of them by their size and their order

    int[] dams(int v) {
        List<int[]> sets = new ArrayList<>();
        for (int bits = 0; bits < 1 << n(); bits += 2) {
            if (Integer.bitCount(bits) <= 3) {
                int[] set = new int[Integer.bitCount(bits)];
                int i = 0;
                for (int p = 1; p < n(); p++) {
                    if ((bits >> p & 1) != 0) {
                        set[i++] = p;
                    }
                }
                sets.add(set);
            }
        }
        sets.sort((a, b) -> a.length != b.length ? a.length - b.length : Arrays.compare(a, b));
        for (int[] set : sets) {
            boolean free = true;
            for (int p : set) {
                free &= !now.dammed[p];
            }
            if (free && flow(dammed(now, set), 0, 0) <= v) {
                return set;
            }
        }
        return null;
    }
}
