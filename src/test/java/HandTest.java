import java.util.Random;

/** What would be, against what is when it is done by hand and undone. */
public final class HandTest {
    private static final Check CHECK = new Check();
    private static final String RIVER = "mouth m; place a m 9 4 2; place b a 7 9 5; place c a 3 12 8; place d m 11 3 4;"
        + "place e d 2 20 1; place f d 14 6 9; place g f 5 1 7; place h f 6 30 3; place i h 1 0 2;"
        + "rains = rain + (month * which) / 5; dries = if flow < 9 then length / 4 else flow / length + month;"
        + "one = far * 3 - won * 4; two = flow + tale; three = tale * 5 - won * 3 + month * which;"
        + "prize 7; seed 41;";

    private final Random random;
    private final SourceDispute x;

    private HandTest(int seed, String more) {
        random = new Random(seed);
        x = Check.with(RIVER + more);
    }

    public static void main(String[] args) {
        for (int seed = 0; seed < 120; seed++) {
            CHECK.title("run " + seed);
            HandTest dry = new HandTest(seed, "");
            dry.shake();
            dry.alike();
            HandTest dammed = new HandTest(seed, "");
            dammed.shake();
            dammed.dams();
            HandTest wet = new HandTest(seed, "storm 40 33;");
            wet.shake();
            wet.stormy();
        }
        CHECK.finish();
    }

    private void shake() {
        for (int i = 0; i < 6; i++) {
            x.dam(random.nextInt(10), true);
            x.turn(random.nextInt(10), random.nextInt(10));
            x.rule(random.nextInt(3));
            x.months(random.nextInt(4));
        }
    }

    private boolean isSource(int p) {
        return (x.count(4) >> p & 1) != 0;
    }

    /** Without storms months ahead are as months gone through. */
    private void alike() {
        int law = random.nextInt(3);
        int source = 1 + random.nextInt(9);
        int n = 1 + random.nextInt(12);
        int when = x.when(source);
        int[] answers = {x.agree(n), x.driest(n, 0), x.driest(n, 1), x.reign(law, n, 0), x.reign(law, n, 1),
            x.flowIn(n), x.then(source, n, 0), x.then(source, n, 1)};
        x.hold(0);
        int agreed = 0;
        int driest = 0;
        int least = Integer.MAX_VALUE;
        int[] reigns = new int[10];
        for (int i = 0; i < n; i++) {
            agreed += x.winner(0) == x.winner(1) && x.winner(1) == x.winner(2) ? 1 : 0;
            driest = x.count(6) < least ? i : driest;
            least = Math.min(least, x.count(6));
            reigns[x.winner(law)]++;
            x.months(1);
        }
        int unlike = 0;
        int best = 0;
        for (int p = 1; p < 10; p++) {
            unlike += reigns[p] > 0 ? 1 : 0;
            best = reigns[p] > reigns[best] ? p : best;
        }
        boolean source1 = isSource(source);
        int[] wants = {agreed, driest, least, unlike, best, x.count(6),
            source1 ? x.spot(source, 9) : -1, source1 ? x.spot(source, 10) : -1};
        for (int i = 0; i < wants.length; i++) {
            CHECK.due("answer " + i, answers[i], wants[i]);
        }
        x.restore(0);
        int months = source1 ? -2 : -1;
        int before = x.spot(source, 9);
        for (int i = 1; i <= 60 && months == -2; i++) {
            x.months(1);
            months = x.spot(source, 9) > before ? i : months;
        }
        CHECK.due("when " + source, when, months);
    }

    private void dams() {
        int flow = x.count(6);
        for (int p = 1; p < 10; p++) {
            int loss = x.loss(p);
            boolean done = x.dam(p, true);
            CHECK.due("loss " + p, loss, flow - x.count(6));
            if (done) {
                x.undo();
            }
        }
        int source = 1 + random.nextInt(9);
        int law = random.nextInt(3);
        int dam = x.damFor(source, law);
        int turn = x.turnFor(source, law);
        int byHand = isSource(source) ? -2 : -1;
        for (int p = 1; p < 10 && byHand == -2; p++) {
            if (x.dam(p, true)) {
                byHand = x.winner(law) == source ? p : byHand;
                x.undo();
            }
        }
        CHECK.due("damFor " + source + " " + law, dam, byHand);
        byHand = isSource(source) ? -2 : -1;
        for (int p = 1; p < 10; p++) {
            for (int into = 0; into < 10 && byHand == -2; into++) {
                if (p != source && x.turn(p, into)) {
                    byHand = x.winner(law) == source ? 100 * p + into : byHand;
                    x.undo();
                }
            }
        }
        CHECK.due("turnFor " + source + " " + law, turn, byHand);
    }

    /** IN n MONTHS and YEAR are with storms, as are months that go by. */
    private void stormy() {
        int source = 1 + random.nextInt(9);
        int n = random.nextInt(20);
        int won = x.then(source, n, 0);
        int money = x.then(source, n, 1);
        int flow = x.flowIn(n);
        int year = x.year(source, n, 1);
        boolean is = isSource(source);
        x.months(n);
        CHECK.due("won", won, is ? x.spot(source, 9) : -1);
        CHECK.due("money", money, is ? x.spot(source, 10) : -1);
        CHECK.due("flow", flow, x.count(6));
        int most = is ? 1 : -1;
        for (int p = 1; p < 10 && is; p++) {
            most = p != source && isSource(p) && x.spot(p, 9) >= x.spot(source, 9) ? 0 : most;
        }
        CHECK.due("year", year, most);
    }
}
