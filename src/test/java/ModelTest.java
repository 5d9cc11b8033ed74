import java.util.ArrayList;
import java.util.List;
import java.util.Random;

/** Random runs of calls, each answer compared with that of the model. */
public final class ModelTest {
    private static final Check CHECK = new Check();

    private final Random random;
    private final SourceDispute x = new SourceDispute();
    private final Model m = new Model();
    private int calls = 0;

    private ModelTest(long seed) {
        random = new Random(seed);
    }

    public static void main(String[] args) {
        int runs = args.length > 0 ? Integer.parseInt(args[0]) : 400;
        for (int seed = 0; seed < runs && CHECK.wrongs() == 0; seed++) {
            CHECK.title("run " + seed);
            new ModelTest(seed).run();
        }
        for (int seed = 0; seed < 40 * runs && CHECK.wrongs() == 0; seed++) {
            CHECK.title("fault " + seed);
            new ModelTest(seed).faultRun();
        }
        CHECK.finish();
    }

    // ---- texts

    private int upTo(int n) {
        return random.nextInt(n + 1);
    }

    private String unit(int deep) {
        int kind = upTo(deep <= 0 ? 5 : 7);
        if (kind <= 1) {
            return "" + (random.nextBoolean() ? upTo(12) : random.nextBoolean() ? upTo(300) : upTo(9999));
        }
        if (kind <= 5) {
            return List.of("rain", "far", "tale", "month", "flow", "length", "won", "which", "above").get(upTo(8));
        }
        return "(" + expression(deep - 1) + ")";
    }

    private String product(int deep) {
        StringBuilder s = new StringBuilder(unit(deep));
        while (upTo(9) < 3) {
            s.append(random.nextBoolean() ? " * " : "/").append(unit(deep));
        }
        return s.toString();
    }

    private String expression(int deep) {
        StringBuilder s = new StringBuilder(product(deep));
        while (upTo(9) < 4) {
            s.append(random.nextBoolean() ? " + " : " - ").append(product(deep));
        }
        return s.toString();
    }

    private String law() {
        StringBuilder s = new StringBuilder("= ");
        for (int ifs = upTo(3) == 0 ? upTo(4) : 0; ifs > 0; ifs--) {
            s.append("if ").append(expression(1)).append(" < ").append(expression(1)).append(" then ")
                .append(expression(1)).append(" else ");
        }
        return s.append(expression(2)).toString();
    }

    private List<String> sentences() {
        List<String> all = new ArrayList<>();
        List<String> names = new ArrayList<>();
        names.add("m");
        all.add("mouth m;");
        for (int n = upTo(11); n > 0; n--) {
            String name = "p" + (char) ('a' + n);
            String into = names.get(random.nextBoolean() ? upTo(names.size() - 1) : Math.max(0, names.size() - 2));
            int tale = upTo(9);
            all.add("place " + name + " " + into + " " + (1 + upTo(98)) + " " + upTo(random.nextBoolean() ? 9 : 99) + " " + tale + ";");
            names.add(name);
        }
        for (String law : List.of("rains", "dries", "one", "two", "three")) {
            if (random.nextBoolean()) {
                all.add(upTo(all.size()), law + " " + law() + ";");
            }
        }
        if (random.nextBoolean()) {
            all.add("storm " + upTo(100) + " " + upTo(99) + ";");
        }
        if (random.nextBoolean()) {
            all.add(0, "prize " + upTo(99) + ";");
        }
        if (random.nextBoolean()) {
            all.add("seed " + upTo(9999) + ";");
        }
        return all;
    }

    private String text() {
        if (upTo(40) == 0) {
            return "storm 50 9; seed " + upTo(99) + ";";
        }
        StringBuilder s = new StringBuilder();
        for (String sentence : sentences()) {
            s.append(sentence).append(random.nextBoolean() ? " " : "\n");
        }
        return s.length() > 2000 ? "mouth m;" : s.toString();
    }

    private void read(String text) {
        Check.feed(x, text);
        m.tape += text;
        due("bytes of " + text, x.count(8), m.tape.length());
        due("read " + text, x.read(), m.read());
        due("place of " + text, x.place(), m.faultPlace);
        calls += 4 + (text.length() + 19) / 20;
    }

    private void due(String call, long got, long want) {
        CHECK.due(call, got, want);
    }

    /** A text that has been changed a little, so that most have a fault. */
    private void faultRun() {
        StringBuilder s = new StringBuilder(text());
        String[] bits = {" ", ";", "mouth", "place", " a ", "(", ")", "if", "then", "else", "<", "=", "+", "-", "7",
            " 100 ", " 0 ", "far", "toolongname", "12345", "\u00e9", "one", "m", " pb ", "X", ".", "\t", "((((((("};
        for (int i = 1 + upTo(3); i > 0; i--) {
            int at = upTo(s.length());
            if (random.nextBoolean()) {
                s.insert(at, bits[upTo(bits.length - 1)]);
            } else if (random.nextBoolean()) {
                s.delete(at, Math.min(s.length(), at + 1 + upTo(3)));
            } else if (random.nextBoolean()) {
                s.append(s.substring(at));
            } else {
                s.setLength(at);
            }
        }
        if (s.length() <= 2000) {
            read(s.toString());
            due("places", x.count(0), m.n());
            due("length", x.count(13), sum(m.text.length));
        }
    }

    private static int sum(List<Integer> row) {
        int sum = 0;
        for (int value : row) {
            sum += value;
        }
        return sum;
    }

    // ---- runs

    private void run() {
        read(text());
        int asked = 0;
        while (calls < 360 && CHECK.wrongs() == 0) {
            calls++;
            act();
            if (asked < 60) {
                asked++;
                calls += 3;
                ask();
                ask();
                ask();
            } else {
                counts();
                calls += 17;
            }
        }
    }

    private int aPlace() {
        return upTo(9) == 0 ? random.nextBoolean() ? -1 - upTo(2) : m.n() + upTo(2) : upTo(Math.max(0, m.n() - 1));
    }

    private int aSource() {
        int all = m.sources(m.now);
        if (all == 0 || upTo(6) == 0) {
            return aPlace();
        }
        int p = upTo(11);
        while ((all >> p & 1) == 0) {
            p = (p + 1) % 12;
        }
        return p;
    }

    private int aLaw() {
        return upTo(12) == 0 ? random.nextBoolean() ? -1 : 3 : upTo(2);
    }

    private int a(int most) {
        return upTo(12) == 0 ? random.nextBoolean() ? -1 : most + 1 : upTo(most);
    }

    private void done(Model.State was) {
        m.past.push(was);
        if (m.past.size() > 40) {
            m.past.removeLast();
        }
    }

    private void act() {
        Model.State was = m.now.copy();
        switch (upTo(13)) {
            case 0, 1, 2 -> {
                int p = aPlace();
                boolean on = random.nextBoolean();
                boolean can = m.isPlace(p) && p != 0 && m.now.dammed[p] != on;
                if (can) {
                    done(was);
                    m.now.dammed[p] = on;
                }
                CHECK.due("dam " + p + on, x.dam(p, on), can);
            }
            case 3, 4, 5 -> {
                int p = aPlace();
                int into = aPlace();
                boolean can = m.isPlace(p) && m.isPlace(into) && p != 0 && m.now.into[p] != into && !m.by(m.now, into, p);
                if (can) {
                    done(was);
                    m.now.into[p] = into;
                }
                CHECK.due("turn " + p + " " + into, x.turn(p, into), can);
            }
            case 6 -> {
                int law = aLaw();
                boolean can = law >= 0 && law < 3 && m.now.rules != law;
                if (can) {
                    done(was);
                    m.now.rules = law;
                }
                CHECK.due("rule " + law, x.rule(law), can);
            }
            case 7, 8 -> {
                int n = upTo(3) == 0 ? a(60) : a(5);
                boolean can = n >= 0 && n <= 60;
                if (can && n > 0) {
                    done(was);
                    m.now = m.in(n, m.text.seed);
                }
                due("months " + n, x.months(n), can ? m.now.month : -1);
            }
            case 9 -> {
                boolean can = !m.past.isEmpty();
                if (can) {
                    m.now = m.past.pop();
                }
                CHECK.due("undo", x.undo(), can);
            }
            case 10 -> {
                int slot = a(2);
                boolean can = slot >= 0 && slot < 3;
                if (can) {
                    m.slots[slot] = m.now.copy();
                }
                CHECK.due("hold " + slot, x.hold(slot), can);
            }
            case 11 -> {
                int slot = a(2);
                boolean can = slot >= 0 && slot < 3 && m.slots[slot] != null;
                if (can && upTo(2) != 0) {
                    m.now = m.slots[slot].copy();
                    m.past.clear();
                    CHECK.due("restore " + slot, x.restore(slot), can);
                } else if (!can) {
                    CHECK.due("restore " + slot, x.restore(slot), can);
                }
            }
            case 12 -> tell();
            default -> {
                if (upTo(60) == 0) {
                    due("forget", x.forget(), m.tellings.size());
                    m.tellings.clear();
                }
                if (upTo(60) == 0) {
                    read(upTo(2) == 0 ? "mouth m; place x y 1 2 3;" : text());
                }
            }
        }
    }

    private void tell() {
        int p = aPlace();
        int d = a(upTo(3) == 0 ? 9999 : 150);
        int e = upTo(5) == 0 ? a(9999) : d + upTo(60);
        boolean so = random.nextBoolean();
        boolean can = m.isPlace(p) && d >= 0 && e >= d && e <= 9999 && m.tellings.size() < 20;
        if (can) {
            m.tellings.add(new Model.Telling(p, d, e, so));
        }
        due("tell", x.tell(p, d, e, so), can ? m.tellings.size() - 1 : -1);
    }

    private void ask() {
        switch (upTo(5)) {
            case 0 -> askSpot();
            case 1 -> askClaims();
            case 2 -> askWater();
            case 3 -> askMonths();
            case 4 -> askShape();
            default -> askDye();
        }
    }

    private void askSpot() {
        int p = aPlace();
        int what = a(12);
        long want = -1;
        if (m.isPlace(p)) {
            want = switch (what) {
                case 0 -> p == 0 ? -2 : m.now.into[p];
                case 1 -> m.text.length.get(p);
                case 2 -> m.text.rain.get(p);
                case 3 -> m.text.tale.get(p);
                case 4 -> m.now.dammed[p] ? 1 : 0;
                case 5 -> m.flow(m.now, p, 0);
                case 6 -> m.far(m.now, p);
                case 7 -> m.above(m.now, p);
                case 8 -> m.isSource(m.now, p) ? 1 : 0;
                case 9 -> m.now.won[p];
                case 10 -> m.now.money[p];
                case 11 -> m.rains(m.now, p);
                case 12 -> m.dries(m.now, p, m.flow(m.now, p, 0));
                default -> -1;
            };
        }
        due("spot " + p + " " + what, x.spot(p, what), want);
    }

    private void askClaims() {
        int p = aSource();
        int law = aLaw();
        boolean isLaw = law >= 0 && law <= 2;
        boolean is = isLaw && m.isSource(m.now, p);
        List<Integer> row = isLaw ? m.ranking(m.now, law, 0) : List.of();
        due("claim " + p + " " + law, x.claim(p, law), is ? m.claim(m.now, p, law, 0) : -1);
        due("winner " + law, x.winner(law), !isLaw ? -1 : row.isEmpty() ? -2 : row.get(0));
        due("rank", x.rank(p, law), is ? row.indexOf(p) : -1);
        due("behind", x.behind(p, law), is ? m.claim(m.now, row.get(0), law, 0) - m.claim(m.now, p, law, 0) : -1);
        due("margin", x.margin(law), !isLaw ? -1 : row.size() < 2 ? -2
            : m.claim(m.now, row.get(0), law, 0) - m.claim(m.now, row.get(1), law, 0));
        due("turnFor " + p + " " + law, x.turnFor(p, law), is ? turnFor(p, law) : -1);
        due("damFor " + p + " " + law, x.damFor(p, law), is ? damFor(p, law) : -1);
        int[] votes = new int[3];
        for (int q = 1; q < m.n(); q++) {
            int best = 0;
            for (int l = 0; l < 3 && m.isSource(m.now, q); l++) {
                best = m.ranking(m.now, l, 0).indexOf(q) < m.ranking(m.now, best, 0).indexOf(q) ? l : best;
            }
            votes[best] += m.isSource(m.now, q) ? 1 : 0;
        }
        int most = votes[0] >= votes[1] && votes[0] >= votes[2] ? 0 : votes[1] >= votes[2] ? 1 : 2;
        boolean any = m.sources(m.now) != 0;
        due("vote 0", x.vote(0), any ? most : -2);
        due("vote 1", x.vote(1), any ? votes[most] : -2);
        due("vote 2", x.vote(2), -1);
        calls += 9;
    }

    private int turnFor(int place, int law) {
        for (int p = 1; p < m.n(); p++) {
            for (int into = 0; into < m.n(); into++) {
                if (p != place && m.now.into[p] != into && !m.by(m.now, into, p)) {
                    Model.State s = m.now.copy();
                    s.into[p] = into;
                    if (m.isSource(s, place) && m.winner(s, law, 0) == place) {
                        return 100 * p + into;
                    }
                }
            }
        }
        return -2;
    }

    private int damFor(int place, int law) {
        for (int p = 1; p < m.n(); p++) {
            if (!m.now.dammed[p] && m.winner(m.dammed(m.now, p), law, 0) == place) {
                return p;
            }
        }
        return -2;
    }

    private void askWater() {
        int whole = m.n() == 0 ? 0 : m.flow(m.now, 0, 0);
        int v = random.nextBoolean() ? upTo(Math.min(9999, whole)) : upTo(whole / 4) + (upTo(9) == 0 ? 10000 : 0);
        int i = upTo(4) - 1 - (upTo(9) == 0 ? 2 : 0);
        long want = -1;
        if (m.n() > 0 && v >= 0 && v <= 9999 && i >= -1 && i <= 2) {
            int[] set = m.dams(v);
            want = set == null ? -2 : i == -1 ? set.length : i < set.length ? set[i] : -1;
        }
        due("dams " + v + " " + i, x.dams(v, i), want);
        int p = aPlace();
        boolean can = m.isPlace(p) && p != 0;
        int loss = can ? whole - m.flow(m.dammed(m.now, p), 0, 0) : -1;
        due("loss " + p, x.loss(p), loss);
        due("part " + p, x.part(p), !can ? -1 : whole == 0 ? 0 : loss * 1000 / whole);
        int step = upTo(5) - 1;
        int at = m.n() == 0 || step < 0 ? -1 : 0;
        for (int s = 0; s < step && at >= 0; s++) {
            int best = -1;
            for (int q = m.n() - 1; q > 0; q--) {
                if (m.now.into[q] == at && (best < 0 || m.flow(m.now, q, 0) >= m.flow(m.now, best, 0))) {
                    best = q;
                }
            }
            at = best;
        }
        due("main " + step, x.main(step), at);
        calls += 3;
    }

    private void askMonths() {
        int n = upTo(1) == 0 ? a(24) : upTo(6);
        boolean ahead = n >= 1 && n <= 24;
        int law = aLaw();
        int agreed = 0;
        int least = Integer.MAX_VALUE;
        int driest = 0;
        int[] reigns = new int[12];
        Model.State s = m.now.copy();
        for (int i = 0; i < n && ahead; i++) {
            int w = m.winner(s, 0, 0);
            agreed += w > 0 && w == m.winner(s, 1, 0) && w == m.winner(s, 2, 0) ? 1 : 0;
            int flow = m.n() == 0 ? 0 : m.flow(s, 0, 0);
            driest = flow < least ? i : driest;
            least = Math.min(least, flow);
            if (law >= 0 && law < 3 && m.winner(s, law, 0) > 0) {
                reigns[m.winner(s, law, 0)]++;
            }
            m.passMonth(s, 0);
        }
        due("agree " + n, x.agree(n), ahead ? agreed : -1);
        boolean mouth = m.n() > 0;
        due("driest 0", x.driest(n, 0), ahead && mouth ? driest : -1);
        due("driest 1", x.driest(n, 1), ahead && mouth ? least : -1);
        boolean reign = ahead && law >= 0 && law < 3;
        int unlike = 0;
        int best = -2;
        for (int p = 11; p > 0; p--) {
            unlike += reigns[p] > 0 ? 1 : 0;
            best = reigns[p] > 0 && (best < 0 || reigns[p] >= reigns[best]) ? p : best;
        }
        due("reign 0", x.reign(law, n, 0), reign ? unlike : -1);
        due("reign 1", x.reign(law, n, 1), reign ? best : -1);
        calls += 4;
        askFuture();
    }

    private void askFuture() {
        int p = aSource();
        boolean source = m.isSource(m.now, p);
        int when = source ? -2 : -1;
        Model.State s = m.now.copy();
        for (int i = 1; i <= 60 && when == -2; i++) {
            m.passMonth(s, 0);
            when = s.won[p] > m.now.won[p] ? i : when;
        }
        due("when " + p, x.when(p), when);
        int n = upTo(2) == 0 ? a(60) : a(8);
        boolean can = n >= 0 && n <= 60;
        Model.State then = can ? m.in(n, m.text.seed) : m.now;
        due("then 0", x.then(p, n, 0), can && source ? then.won[p] : -1);
        due("then 1", x.then(p, n, 1), can && source ? then.money[p] : -1);
        due("flowIn " + n, x.flowIn(n), can && m.n() > 0 ? m.flow(then, 0, 0) : -1);
        int seeds = 1 + upTo(2);
        int most = 0;
        for (int i = 0; i < seeds && can && source; i++) {
            Model.State end = m.in(n, m.text.seed + i);
            int others = -1;
            for (int q = 1; q < m.n(); q++) {
                others = q != p && m.isSource(end, q) ? Math.max(others, end.won[q]) : others;
            }
            most += end.won[p] > others ? 1 : 0;
        }
        due("year " + p + " " + n, x.year(p, n, seeds), can && source ? most : -1);
        calls += 5;
    }

    private void askShape() {
        int p = aPlace();
        int q = aPlace();
        boolean is = m.isPlace(p);
        boolean both = is && m.isPlace(q);
        due("order " + p, x.order(p), is ? m.order(m.now, p) : -1);
        int bits = 0;
        int rains = 0;
        int depth = 0;
        int meet = -1;
        for (int r = 0; r < m.n(); r++) {
            if (is && m.by(m.now, r, p)) {
                bits |= 1 << r;
                rains += m.rains(m.now, r);
            }
            depth = m.isSource(m.now, r) ? Math.max(depth, m.steps(m.now, r)) : depth;
            if (both && m.by(m.now, p, r) && m.by(m.now, q, r) && (meet < 0 || m.by(m.now, r, meet))) {
                meet = r;
            }
        }
        due("basin 0", x.basin(p, 0), is ? bits : -1);
        due("basin 1", x.basin(p, 1), is ? rains : -1);
        due("depth", x.depth(), depth);
        due("meet 0", x.meet(p, q, 0), meet);
        due("meet 1", x.meet(p, q, 1), both
            ? m.far(m.now, p) - m.far(m.now, meet) + m.far(m.now, q) - m.far(m.now, meet) : -1);
        due("tour", x.tour(), m.tour(m.now, m.sources(m.now)));
        calls += 6;
        if (Integer.bitCount(m.sources(m.now)) <= 5) {
            due("parted", x.parted(), m.parted());
            calls++;
        }
    }

    private void askDye() {
        int k = a(m.tellings.size());
        boolean can = k >= 0 && k <= m.tellings.size();
        int left = can ? m.left(k) : 0;
        due("dyed 0", x.dyed(k, 0), can ? Integer.bitCount(left) : -1);
        due("dyed 1", x.dyed(k, 1), can ? left : -1);
        int best = can ? -2 : -1;
        int fewest = 99;
        for (int p = 0; p < m.n() && left != 0; p++) {
            int by = 0;
            for (int s = 1; s < m.n(); s++) {
                by += (left >> s & 1) != 0 && m.by(m.now, s, p) ? 1 : 0;
            }
            int worst = Math.max(by, Integer.bitCount(left) - by);
            best = worst < fewest ? p : best;
            fewest = Math.min(fewest, worst);
        }
        due("watch " + k, x.watch(k), best);
        calls += 2;
    }

    private void counts() {
        int n = m.n();
        int dammed = 0;
        int turned = 0;
        int money = 0;
        int farthest = 0;
        int richest = -2;
        for (int p = 0; p < n; p++) {
            dammed |= m.now.dammed[p] ? 1 << p : 0;
            turned |= m.now.into[p] != m.text.into.get(p) ? 1 << p : 0;
            money += m.now.money[p];
            farthest = Math.max(farthest, m.far(m.now, p));
            richest = m.now.money[p] > (richest < 0 ? 0 : m.now.money[richest]) ? p : richest;
        }
        int held = 0;
        for (Model.State slot : m.slots) {
            held += slot == null ? 0 : 1;
        }
        boolean storm = Model.lot(100, m.text.seed, 4 * m.now.month) < m.text.chance;
        int[] want = {n, m.now.month, m.now.month % 12, m.now.rules, m.sources(m.now), dammed,
            n == 0 ? 0 : m.flow(m.now, 0, 0), money, m.tape.length(), m.past.size(), m.tellings.size(), held,
            storm ? 1 : 0, sum(m.text.length), turned, sum(m.text.rain), farthest, -1};
        for (int what = 0; what < want.length; what++) {
            due("count " + what, x.count(what), want[what]);
        }
        due("richest 0", x.richest(0), richest);
        due("richest 1", x.richest(1), richest < 0 ? -2 : m.now.money[richest]);
        calls += 2;
    }
}
