import java.util.function.IntPredicate;

/** The least and the most that calls take, full rivers, what is alike, what wraps around, promise by promise. */
public final class AcceptedTest {
    private static final Check CHECK = new Check();
    private static final int NONE = -1;
    private static final int NOBODY = -2;
    private static final String FORK = "mouth m; place s m 5 10 3; place t m 5 20 4;";
    /** Each of eleven runs into the one ahead, 99 long; the last one is the only source. */
    private static final String CHAIN = "mouth m; place a m 99 1 1; place b a 99 1 1; place c b 99 1 1; place d c 99 1 1;"
        + "place e d 99 1 1; place f e 99 1 1; place g f 99 1 1; place h g 99 1 1; place i h 99 1 1; place j i 99 1 1;"
        + "place k j 99 1 1;";
    /** Eleven sources, as long as their numbers, with as much rain. */
    private static final String STAR = "mouth m; place a m 1 1 0; place b m 2 2 0; place c m 3 3 0; place d m 4 4 0;"
        + "place e m 5 5 0; place f m 6 6 0; place g m 7 7 0; place h m 8 8 0; place i m 9 9 0; place j m 10 10 0;"
        + "place k m 11 11 0;";

    public static void main(String[] args) {
        chain();
        chainTurned();
        star();
        starClaims();
        starByHand();
        months();
        undone();
        undoneRound();
        notDone();
        agree();
        driest();
        reign();
        weighings();
        votes();
        richest();
        dams();
        damsInOrder();
        damsFewPlaces();
        loss();
        main();
        turnFor();
        damFor();
        order();
        tours();
        meet();
        when();
        then();
        year();
        yearSeeds();
        tell();
        dyed();
        watch();
        slots();
        counts();
        nothingHappens();
        CHECK.finish();
    }

    // ---- full rivers

    private static void chain() {
        CHECK.title("a full river: a chain of eleven");
        SourceDispute x = Check.with(CHAIN);
        for (int p = 1; p <= 11; p++) {
            int[] want = {p - 1, 99, 1, 1, 0, 12 - p, 99 * p, 11 - p, p == 11 ? 1 : 0, 0, 0, 1, 0};
            for (int what = 0; what < want.length; what++) {
                CHECK.due("spot " + p + " " + what, x.spot(p, what), want[what]);
            }
            CHECK.due("loss", x.loss(p), 12 - p);
            CHECK.due("part", x.part(p), (12 - p) * 1000 / 11);
            CHECK.due("main", x.main(p), p);
            CHECK.due("order", x.order(p), 1);
            CHECK.due("basin", x.basin(p, 0), 4095 >> p << p);
            CHECK.due("meet", x.meet(p, 11, 0), p);
            CHECK.due("lengths", x.meet(p, 11, 1), 99 * (11 - p));
        }
        int[] answers = {x.count(0), x.count(4), x.count(6), x.count(13), x.count(15), x.count(16), x.main(12), x.depth(),
            x.order(0), x.tour(), x.parted(), x.spot(0, 7), x.basin(0, 0), x.margin(0), x.winner(2), x.vote(0), x.vote(1),
            x.agree(24), x.reign(1, 24, 0), x.reign(1, 24, 1), x.dams(0, NONE), x.dams(0, 0), x.dams(10, 0), x.watch(0),
            x.damFor(11, 0), x.when(11), x.year(11, 60, 20), x.then(11, 60, 0), x.flowIn(60), x.driest(24, 1)};
        int[] want = {12, 2048, 11, 1089, 11, 1089, NONE, 12, 1, 1089, 1089, 11, 4095, NOBODY, 11, 0, 1, 24, 1, 11, 1, 1, 1, 0,
            1, 1, 20, 60, 11, 11};
        for (int i = 0; i < want.length; i++) {
            CHECK.due("answer " + i, answers[i], want[i]);
        }
    }

    private static void chainTurned() {
        CHECK.title("runs into that already, that is above it or itself");
        SourceDispute x = Check.with(CHAIN);
        for (int p = 1; p <= 11; p++) {
            for (int into = p - 1; into <= 11; into++) {
                CHECK.due("turn " + p + " " + into, x.turn(p, into), false);
            }
        }
        CHECK.due("nothing is done", x.count(9), 0);
        CHECK.due("the first up", x.turn(1, 11), false);
        CHECK.due("the last down", x.turn(11, 1), true);
        CHECK.due("then up it", x.turn(2, 11), true);
        CHECK.due("depth", x.depth(), 12);
        CHECK.due("sources", x.count(4), 1 << 10);
        CHECK.due("turned ones", x.count(14), 1 << 11 | 1 << 2);
        CHECK.due("as told", x.turn(2, 1), true);
        CHECK.due("turned ones", x.count(14), 1 << 11);
    }

    private static void star() {
        CHECK.title("a full river: a star of eleven");
        SourceDispute x = Check.with(STAR);
        int[] answers = {x.count(0), x.count(4), x.count(6), x.count(13), x.count(15), x.count(16), x.main(1), x.main(2),
            x.depth(), x.order(0), x.tour(), x.parted(), x.spot(0, 7), x.basin(0, 1), x.dyed(0, 0), x.dyed(0, 1), x.watch(0),
            x.dams(36, NONE), x.dams(35, NONE), x.dams(36, 0), x.dams(36, 1), x.dams(36, 2), x.dams(66, NONE), x.dams(65, 0),
            x.meet(10, 11, 0), x.meet(10, 11, 1), x.spot(0, 8), x.order(11), x.part(11), x.loss(11)};
        int[] want = {12, 4094, 66, 66, 66, 11, 11, NONE, 2, 2, 121, 56, 11, 66, 11, 4094, 1, 3, NOBODY, 9, 10, 11, 0, 1, 0, 21,
            0, 1, 166, 11};
        for (int i = 0; i < want.length; i++) {
            CHECK.due("answer " + i, answers[i], want[i]);
        }
    }

    private static void starClaims() {
        CHECK.title("a full river: eleven claims");
        SourceDispute x = Check.with(STAR + "two = 5; three = 20 - which;");
        for (int p = 1; p <= 11; p++) {
            CHECK.due("claim", x.claim(p, 0), p);
            CHECK.due("rank", x.rank(p, 0), 11 - p);
            CHECK.due("behind", x.behind(p, 0), 11 - p);
            CHECK.due("all alike", x.rank(p, 1), p - 1);
            CHECK.due("none behind", x.behind(p, 1), 0);
            CHECK.due("the other way", x.rank(p, 2), p - 1);
            CHECK.due("the other way", x.behind(p, 2), p - 1);
        }
        CHECK.due("winner", x.winner(0), 11);
        CHECK.due("of alike ones", x.winner(1), 1);
        CHECK.due("winner", x.winner(2), 1);
        CHECK.due("margin", x.margin(0), 1);
        CHECK.due("margin", x.margin(1), 0);
        // up to the sixth law ONE is no better than TWO
        CHECK.due("vote", x.vote(0), 0);
        CHECK.due("votes", x.vote(1), 6);
    }

    private static void starByHand() {
        CHECK.title("a full river: all dammed, all turned");
        SourceDispute x = Check.with(STAR);
        for (int p = 1; p <= 11; p++) {
            CHECK.due("dam", x.dam(p, true), true);
            CHECK.due("flow", x.count(6), 66 - p * (p + 1) / 2);
        }
        CHECK.due("all", x.count(5), 4094);
        CHECK.due("no dams for nothing", x.dams(0, NONE), 0);
        CHECK.due("no more to dam", x.damFor(11, 0), NOBODY);
        CHECK.due("no loss", x.loss(11), 0);
        CHECK.due("no part of nothing", x.part(11), 0);
        for (int p = 10; p >= 1; p--) {
            CHECK.due("turn", x.turn(p, p + 1), true);
        }
        CHECK.due("all but one", x.count(14), 2046);
        CHECK.due("one source", x.count(4), 2);
        CHECK.due("far", x.spot(1, 6), 66);
        CHECK.due("depth", x.depth(), 12);
        for (int p = 1; p <= 11; p++) {
            CHECK.due("no more", x.dam(p, false), true);
        }
        CHECK.due("flow", x.count(6), 66);
        CHECK.due("to undo", x.count(9), 32);
    }

    // ---- months, undone

    private static void months() {
        CHECK.title("n MONTHS (0 .. 60; 0 is no thing done) go by: which it is");
        SourceDispute x = Check.with(FORK);
        CHECK.due("none", x.months(0), 0);
        CHECK.due("not done", x.count(9), 0);
        CHECK.due("one", x.months(1), 1);
        CHECK.due("none", x.months(0), 1);
        CHECK.due("done once", x.count(9), 1);
        CHECK.due("the most", x.months(60), 61);
        CHECK.due("won each time", x.spot(1, 9), 61);
        CHECK.due("done twice", x.count(9), 2);
        CHECK.due("undo all sixty", x.undo(), true);
        CHECK.due("month", x.count(1), 1);
        CHECK.due("won", x.spot(1, 9), 1);
        CHECK.due("money", x.spot(1, 10), 1);
    }

    private static void undone() {
        CHECK.title("the last 40 can be");
        SourceDispute x = Check.with(FORK);
        for (int i = 1; i <= 39; i++) {
            x.months(1);
        }
        CHECK.due("39", x.count(9), 39);
        x.months(1);
        CHECK.due("40", x.count(9), 40);
        x.months(1);
        CHECK.due("a 41st", x.count(9), 40);
        for (int i = 40; i >= 1; i--) {
            CHECK.due("to undo", x.count(9), i);
            CHECK.due("undo", x.undo(), true);
            CHECK.due("month", x.count(1), i);
        }
        CHECK.due("the first one stays", x.undo(), false);
        CHECK.due("month", x.count(1), 1);
        CHECK.due("won", x.spot(1, 9), 1);
    }

    private static void undoneRound() {
        CHECK.title("things done and undone, more than twice round");
        SourceDispute x = Check.with(FORK);
        for (int i = 0; i < 100; i++) {
            x.dam(1 + i % 2, i / 2 % 2 == 0);
        }
        CHECK.due("dams", x.count(5), 0);
        for (int i = 0; i < 10; i++) {
            CHECK.due("undo", x.undo(), true);
        }
        CHECK.due("to undo", x.count(9), 30);
        CHECK.due("the 90th of a hundred", x.count(5), 6);
        for (int i = 0; i < 20; i++) {
            x.months(2);
        }
        CHECK.due("to undo", x.count(9), 40);
        for (int i = 0; i < 20; i++) {
            CHECK.due("undo", x.undo(), true);
        }
        CHECK.due("month", x.count(1), 0);
        CHECK.due("the 90th of a hundred", x.count(5), 6);
        for (int i = 0; i < 20; i++) {
            CHECK.due("undo", x.undo(), true);
        }
        CHECK.due("none", x.undo(), false);
        CHECK.due("the 70th of a hundred", x.count(5), 6);
    }

    private static void notDone() {
        CHECK.title("things done (dam, turn, rule, months); nothing else is");
        SourceDispute x = Check.with(FORK);
        x.tell(1, 0, 0, true);
        x.hold(0);
        x.restore(0);
        x.forget();
        x.feed(0, 0, 0, 0, 0);
        x.months(0);
        x.dam(1, false);
        x.turn(1, 0);
        x.rule(0);
        CHECK.due("none", x.count(9), 0);
        CHECK.due("undo", x.undo(), false);
        x.dam(1, true);
        x.turn(1, 2);
        x.rule(2);
        x.months(1);
        CHECK.due("four", x.count(9), 4);
        x.tell(1, 0, 0, true);
        x.hold(1);
        CHECK.due("four", x.count(9), 4);
        CHECK.due("undo", x.undo(), true);
        CHECK.due("undo undoes nothing else", x.count(10) * 10 + x.count(11), 12);
        CHECK.due("three", x.count(9), 3);
        CHECK.due("restore", x.restore(1), true);
        CHECK.due("nothing can be undone then", x.undo(), false);
        CHECK.due("none", x.count(9), 0);
        CHECK.due("month", x.count(1), 1);
    }

    // ---- months ahead

    private static void agree() {
        CHECK.title("AGREE by n months (1 .. 24), this one the first");
        SourceDispute x = Check.with(FORK + "one = if won < 23 then which else 0;");
        for (int n = 1; n <= 24; n++) {
            CHECK.due("by " + n, x.agree(n), Math.min(n, 23));
        }
        x = Check.with(FORK + "one = if won < 24 then which else 0;");
        CHECK.due("all of the most", x.agree(24), 24);
        x.months(23);
        CHECK.due("the last one", x.agree(1), 1);
        CHECK.due("the last one and another", x.agree(2), 1);
        x.months(1);
        CHECK.due("none", x.agree(1), 0);
        CHECK.title("AGREE: all three laws have one WINNER");
        String alike = "one = which; two = which; three = which;";
        x = Check.with(FORK + alike);
        CHECK.due("all three", x.agree(5), 5);
        for (String other : new String[] {"one", "two", "three"}) {
            x = Check.with(FORK + alike.replace(other + " = which", other + " = 9 - which"));
            CHECK.due("all but " + other, x.agree(5), 0);
        }
    }

    private static void driest() {
        CHECK.title("DRIEST of n months (1 .. 24), this one the first: in which (0: this one)");
        SourceDispute x = Check.with(FORK + "rains = 30 - won;");
        for (int n = 1; n <= 24; n++) {
            CHECK.due("which of " + n, x.driest(n, 0), n - 1);
            CHECK.due("how much of " + n, x.driest(n, 1), 90 - (n - 1));
        }
        x = Check.with(FORK + "rains = 7;");
        CHECK.due("of alike ones the first", x.driest(24, 0), 0);
        CHECK.due("how much", x.driest(24, 1), 21);
        x = Check.with(FORK + "rains = if month < 11 then 1 else 0;");
        CHECK.due("not yet", x.driest(11, 0), 0);
        CHECK.due("just yet", x.driest(12, 0), 11);
        CHECK.due("of alike ones the first", x.driest(24, 0), 11);
        CHECK.due("nothing", x.driest(24, 1), 0);
    }

    private static void reign() {
        CHECK.title("REIGN by a law in n months (1 .. 24), this one the first");
        SourceDispute x = Check.with(STAR + "one = 30 - won * 9;");
        for (int n = 1; n <= 24; n++) {
            CHECK.due("how many in " + n, x.reign(0, n, 0), Math.min(11, n));
            CHECK.due("who in " + n, x.reign(0, n, 1), 1);
        }
        x = Check.with(FORK + "one = if month < 1 then which else 9 - which;");
        CHECK.due("one", x.reign(0, 1, 1), 2);
        CHECK.due("two alike, the first", x.reign(0, 2, 1), 1);
        CHECK.due("three", x.reign(0, 3, 1), 1);
        CHECK.due("never the second more often", x.reign(0, 24, 1), 1);
        x = Check.with(FORK + "one = if month < 11 then which else 9 - which;");
        CHECK.due("not yet", x.reign(0, 11, 0), 1);
        CHECK.due("just yet", x.reign(0, 12, 0), 2);
        CHECK.due("who", x.reign(0, 24, 1), 2);
    }

    // ---- claims against one another

    private static void weighings() {
        CHECK.title("MARGIN, BEHIND, RANK of two, of one");
        SourceDispute x = Check.with(FORK + "one = if which < 2 then 8 else 7; three = 0;");
        CHECK.due("by one", x.margin(0), 1);
        CHECK.due("behind", x.behind(2, 0), 1);
        CHECK.due("the winner", x.behind(1, 0), 0);
        CHECK.due("none", x.margin(2), 0);
        CHECK.due("alike, the lower number", x.rank(1, 2), 0);
        CHECK.due("alike, the higher number", x.rank(2, 2), 1);
        CHECK.due("the second one ahead", x.rank(2, 1), 0);
        CHECK.due("the first one behind", x.rank(1, 1), 1);
        x.turn(1, 2);
        CHECK.due("there are not two", x.margin(0), NOBODY);
        CHECK.due("one", x.rank(1, 0), 0);
        CHECK.due("one", x.behind(1, 1), 0);
        CHECK.due("one", x.winner(0), 1);
        CHECK.due("no source now", x.rank(2, 0), NONE);
    }

    private static void votes() {
        CHECK.title("VOTE: of alike best ones the first law; of alike ones the first");
        SourceDispute x = Check.with(FORK + "one = 0; two = 0; three = 0;");
        CHECK.due("all alike", x.vote(0), 0);
        CHECK.due("both", x.vote(1), 2);
        x = Check.with(FORK + "one = which; two = 9 - which; three = 9 - which;");
        CHECK.due("one and one", x.vote(0), 0);
        CHECK.due("one", x.vote(1), 1);
        x = Check.with("mouth m; place a m 1 1 1; place b m 1 1 1; place c m 1 1 1;"
            + "one = which; two = if which < 2 then 1 else 0; three = if 1 < which then 3 - which / 3 else 0;");
        // ranks of a: 2 0 2, of b: 1 1 0, of c: 0 2 1
        CHECK.due("one each", x.vote(0), 0);
        CHECK.due("one", x.vote(1), 1);
        x = Check.with("mouth m; place a m 1 1 1; place b m 1 1 1; place c m 1 1 1;"
            + "one = 9 - (which - 2) * (which - 2) * 3 + which; two = 20 - which; three = which;");
        // ranks of a: 2 0 2, of b: 0 1 1, of c: 1 2 0
        CHECK.due("one each", x.vote(0), 0);
        x = Check.with("mouth m; place a m 1 1 1; place b m 1 1 1; place c m 1 1 1; one = if 2 < which then 9 else 0;"
            + "two = if 2 < which then 0 else 9 - which; three = 0;");
        // ranks of a: 1 0 0, of b: 2 1 1, of c: 0 2 2
        CHECK.due("two of the second", x.vote(0), 1);
        CHECK.due("two", x.vote(1), 2);
    }

    private static void richest() {
        CHECK.title("Who has most MONEY now, of alike ones the first; nobody has any");
        SourceDispute x = Check.with(FORK + "one = 9 - won * which;");
        CHECK.due("nobody", x.richest(0), NOBODY);
        x.months(1);
        CHECK.due("one", x.richest(0), 1);
        x.months(1);
        CHECK.due("two alike", x.richest(0), 1);
        CHECK.due("how much", x.richest(1), 1);
        x = Check.with(FORK + "prize 0;");
        x.months(60);
        CHECK.due("a prize of 0", x.richest(1), NOBODY);
        x = Check.with(FORK + "prize 7;");
        x.months(2);
        x.rule(1);
        x.months(3);
        CHECK.due("more of the second", x.richest(0), 2);
        CHECK.due("how much", x.richest(1), 21);
        CHECK.due("of all", x.count(7), 35);
        x.turn(1, 2);
        CHECK.due("a source no more", x.richest(0), 2);
        x = Check.with(STAR + "prize 99;");
        x.months(60);
        CHECK.due("the last one", x.richest(0), 11);
        CHECK.due("how much", x.richest(1), 5940);
        CHECK.due("of all", x.count(7), 5940);
    }

    // ---- water

    private static void dams() {
        CHECK.title("DAMS for a FLOW v (0 .. 9,999): v or less");
        SourceDispute x = Check.with(FORK);
        int[][] want = {{9999, 0, NONE, NONE}, {31, 0, NONE, NONE}, {30, 0, NONE, NONE}, {29, 1, 1, NONE}, {20, 1, 1, NONE},
            {19, 1, 2, NONE}, {10, 1, 2, NONE}, {9, 2, 1, 2}, {1, 2, 1, 2}, {0, 2, 1, 2}};
        for (int[] w : want) {
            CHECK.due("how many for " + w[0], x.dams(w[0], NONE), w[1]);
            CHECK.due("first for " + w[0], x.dams(w[0], 0), w[2]);
            CHECK.due("second for " + w[0], x.dams(w[0], 1), w[3]);
            CHECK.due("third for " + w[0], x.dams(w[0], 2), NONE);
        }
        x = Check.with(STAR + "rains = 999;");
        CHECK.due("the greatest v", x.dams(9999, NONE), 2);
        CHECK.due("first", x.dams(9999, 0), 1);
        CHECK.due("second", x.dams(9999, 1), 2);
        CHECK.due("by three", x.dams(8991, NONE), 3);
        CHECK.due("by three not", x.dams(8990, NONE), NOBODY);
    }

    private static void damsInOrder() {
        CHECK.title("of alike ones the first by the least number, then the next one");
        SourceDispute x = Check.with("mouth m; place a m 1 3 0; place b m 1 5 0; place c m 1 5 0; place d m 1 7 0;");
        int[][] want = {{17, 1, 1}, {16, 1, 2}, {15, 1, 2}, {14, 1, 4}, {13, 1, 4}, {12, 2, 1, 2}, {11, 2, 1, 4}, {10, 2, 1, 4},
            {9, 2, 2, 4}, {8, 2, 2, 4}, {7, 3, 1, 2, 3}, {6, 3, 1, 2, 4}, {5, 3, 1, 2, 4}, {4, 3, 2, 3, 4}, {3, 3, 2, 3, 4},
            {2, NOBODY}};
        for (int[] w : want) {
            CHECK.due("how many for " + w[0], x.dams(w[0], NONE), w[1]);
            for (int i = 2; i < w.length; i++) {
                CHECK.due(i - 2 + " of them for " + w[0], x.dams(w[0], i - 2), w[i]);
            }
        }
        CHECK.title("not DAMMED");
        x.dam(2, true);
        CHECK.due("how many", x.dams(10, NONE), 1);
        CHECK.due("not that one", x.dams(10, 0), 3);
        CHECK.due("three", x.dams(0, NONE), 3);
        CHECK.due("not that one", x.dams(0, 0) * 100 + x.dams(0, 1) * 10 + x.dams(0, 2), 134);
    }

    private static void damsFewPlaces() {
        CHECK.title("by three not: there are not so many PLACES");
        SourceDispute x = Check.with("mouth m; place a m 1 3 0; rains = 5;");
        CHECK.due("one is enough", x.dams(5, NONE), 1);
        CHECK.due("one is not enough", x.dams(4, NONE), NOBODY);
        x.dam(1, true);
        CHECK.due("none is enough", x.dams(5, NONE), 0);
        CHECK.due("none is left", x.dams(4, NONE), NOBODY);
        x = Check.with("mouth m; place a m 1 3 0; place b m 1 3 0; rains = 5;");
        CHECK.due("two are not enough", x.dams(4, NONE), NOBODY);
        CHECK.due("nor the first of them", x.dams(4, 0), NOBODY);
    }

    private static void loss() {
        CHECK.title("LOSS, PART: nothing, all, less than nothing");
        SourceDispute x = Check.with("mouth m; place a m 1 1 0; place b a 1 2 0;");
        CHECK.due("all", x.loss(1), 3);
        CHECK.due("all", x.part(1), 1000);
        CHECK.due("rounded towards 0", x.part(2), 666);
        x.dam(1, true);
        CHECK.due("behind a dam", x.loss(2), 0);
        CHECK.due("FLOW 0", x.part(2), 0);
        CHECK.due("dammed", x.loss(1), 0);
        x = Check.with("mouth m; place a m 9 3 1; place b a 1 5 1; place c m 1 4 0;"
            + "dries = if which < 2 then (flow / 5) * flow else 0;");
        CHECK.due("less than nothing", x.loss(2), -3);
        CHECK.due("rounded towards 0", x.part(2), -750);
        x = Check.with("mouth m; place a m 9 2 1; place b a 1 5 1; place c m 1 3 0;"
            + "dries = if which < 2 then (flow / 5) * flow else 0;");
        CHECK.due("rounded towards 0", x.part(2), -666);
        x = Check.with(STAR + "rains = 999;");
        CHECK.due("of the greatest flow", x.part(11), 999 * 1000 / 11988);
    }

    private static void main() {
        CHECK.title("MAIN (0: the MOUTH): by the PLACE with most FLOW, of alike ones the first");
        SourceDispute x = Check.with("mouth m; place a m 1 5 0; place b m 1 3 0; place c b 1 2 0; place d b 1 2 0;");
        CHECK.due("the mouth", x.main(0), 0);
        CHECK.due("more flow", x.main(1), 2);
        CHECK.due("alike ones", x.main(2), 3);
        CHECK.due("no more", x.main(3), NONE);
        x.dam(3, true);
        CHECK.due("alike ones", x.main(1), 1);
        CHECK.due("no more", x.main(2), NONE);
        x.turn(2, 1);
        CHECK.due("turned", x.main(2), 2);
        CHECK.due("turned", x.main(3), 3);
        x = Check.with(STAR + "rains = 0;");
        CHECK.due("none with flow", x.main(1), 1);
    }

    private static void turnFor() {
        CHECK.title("TURN: 100 * the PLACE + into which; itself is not turned");
        SourceDispute x = Check.with("mouth m; place a m 1 1 1; place b m 9 1 1;");
        CHECK.due("none but itself, none but into it", x.turnFor(2, 0), NOBODY);
        CHECK.due("it would be a source no more", x.turnFor(1, 0), NOBODY);
        x = Check.with(CHAIN);
        CHECK.due("the first one can be turned nowhere", x.turnFor(11, 0), 200);
        x = Check.with("mouth m; place a m 5 1 1; place b m 6 1 1; place c m 7 1 1;"
            + "one = if far < 8 then far else if which < 2 then 9 else 0;");
        CHECK.due("the last place, the first into", x.turnFor(2, 0), 301);
        CHECK.due("into the last", x.turnFor(1, 0), 203);
        x = Check.with(STAR);
        CHECK.due("not into the mouth already", x.turnFor(11, 0), 102);
        CHECK.due("none", x.turnFor(10, 0), NOBODY);
        x = Check.with(STAR + "one = if 10 < which then (12 - far) * 100 else if 11 < far then 200 else which;");
        CHECK.due("the last one", x.turnFor(10, 0), 1101);
        CHECK.due("the last one into the last one else", x.turnFor(9, 0), 1110);
    }

    private static void damFor() {
        CHECK.title("DAM: the first PLACE, not DAMMED; itself can be");
        SourceDispute x = Check.with("mouth m; place a m 1 1 1;");
        CHECK.due("itself", x.damFor(1, 0), 1);
        x.dam(1, true);
        CHECK.due("dammed", x.damFor(1, 0), NOBODY);
        x = Check.with("mouth m; place a m 1 1 1; place b a 1 9 1; place c a 1 5 1; two = flow; one = flow;");
        CHECK.due("a dam takes no flow of its own", x.damFor(3, 1), NOBODY);
        CHECK.due("the winner's", x.damFor(2, 1), 1);
        x.dam(1, true);
        CHECK.due("the winner's", x.damFor(2, 1), 2);
        x.dam(2, true);
        CHECK.due("the winner's", x.damFor(2, 1), 3);
        x.dam(3, true);
        CHECK.due("none is left", x.damFor(2, 1), NOBODY);
    }

    // ---- the shape

    private static void order() {
        CHECK.title("ORDER: 1 more if two or more of them have that");
        SourceDispute x = Check.with("mouth m; place a m 1 1 1; place b a 1 1 1; place c b 1 1 1; place d b 1 1 1; place e b 1 1 1;"
            + "place f a 1 1 1; place g f 1 1 1; place h f 1 1 1; place i m 1 1 1; place j i 1 1 1; place k i 1 1 1;");
        int[] want = {3, 3, 2, 1, 1, 1, 2, 1, 1, 2, 1, 1};
        for (int p = 0; p < want.length; p++) {
            CHECK.due("order " + p, x.order(p), want[p]);
        }
        CHECK.due("three alike are one more only", x.order(2), 2);
        x.turn(9, 1);
        CHECK.due("three alike", x.order(1), 3);
        CHECK.due("one alone", x.order(0), 3);
        x.turn(6, 9);
        CHECK.due("one greater among lower ones", x.order(9), 2);
        CHECK.due("no MOUTH", new SourceDispute().order(0), NONE);
        CHECK.due("the MOUTH without any", Check.with("mouth m;").order(0), 1);
    }

    private static void tours() {
        CHECK.title("TOUR, PARTED: of one, of two, of alike ones");
        SourceDispute x = Check.with("mouth m; place a m 99 0 0;");
        CHECK.due("one", x.tour(), 99);
        CHECK.due("the other one stays", x.parted(), 99);
        x = Check.with("mouth m; place a m 3 0 0; place b m 4 0 0;");
        CHECK.due("back by the shorter one", x.tour(), 10);
        CHECK.due("one each", x.parted(), 4);
        x = Check.with("mouth m; place a m 4 0 0; place b m 4 0 0;");
        CHECK.due("alike", x.tour(), 12);
        x = Check.with("mouth m; place a m 50 0 0; place b a 1 0 0; place c a 1 0 0; place d m 2 0 0;");
        CHECK.due("the far one last", x.tour(), 50 + 3 + 4);
        CHECK.due("both the far ones by one", x.parted(), 53);
        x.dam(1, true);
        CHECK.due("dams are no matter", x.tour(), 57);
        x = Check.with(CHAIN);
        x.turn(11, 0);
        CHECK.due("two", x.tour(), 2 * 99 + 990);
        CHECK.due("one each", x.parted(), 990);
    }

    private static void meet() {
        CHECK.title("MEET: one of them, too; itself; the MOUTH; DAMS not looked at");
        SourceDispute x = Check.with("mouth m; place a m 1 0 0; place b a 2 0 0; place c b 4 0 0; place d b 8 0 0; place e m 16 0 0;");
        int[][] want = {{3, 4, 2, 12}, {3, 3, 3, 0}, {3, 1, 1, 6}, {1, 3, 1, 6}, {2, 3, 2, 4}, {3, 5, 0, 23}, {0, 3, 0, 7},
            {0, 0, 0, 0}, {5, 0, 0, 16}, {1, 5, 0, 17}};
        for (int[] w : want) {
            CHECK.due("meet " + w[0] + " " + w[1], x.meet(w[0], w[1], 0), w[2]);
            CHECK.due("lengths " + w[0] + " " + w[1], x.meet(w[0], w[1], 1), w[3]);
        }
        x.dam(3, true);
        x.dam(2, true);
        CHECK.due("dams", x.meet(3, 4, 0), 2);
        x.turn(3, 5);
        CHECK.due("turned", x.meet(3, 4, 0), 0);
        CHECK.due("lengths", x.meet(3, 4, 1), 4 + 16 + 8 + 2 + 1);
        x = Check.with("mouth m; place a m 1 0 0; place b a 2 0 0; place c m 4 0 0; place d a 8 0 0;");
        x.turn(1, 3);
        CHECK.due("the first has not the highest number", x.meet(2, 4, 0), 1);
        CHECK.due("lengths", x.meet(2, 4, 1), 10);
    }

    // ---- what comes

    private static void when() {
        CHECK.title("WHEN: behind how many MONTHS (1 .. 60)");
        for (int won : new int[] {0, 1, 2, 58, 59, 60, 61}) {
            SourceDispute x = Check.with(FORK + "one = if which < 2 then " + won + " - won else 0;");
            // the second one's claim is never greater than 0: it wins once the first one's is below it, alike is the first's
            CHECK.due("never", x.when(2), NOBODY);
            x = Check.with(FORK + "one = if which < 2 then " + (won + 1) + " - won else 1;");
            CHECK.due("alike " + won + " times", x.when(2), won + 2 <= 60 ? won + 2 : NOBODY);
            CHECK.due("at once", x.when(1), 1);
        }
        SourceDispute y = Check.with(FORK + "prize 99;");
        y.months(30);
        CHECK.due("once more than it has", y.when(1), 1);
        CHECK.title("WHEN is without STORMS");
        SourceDispute x = Check.with(FORK + "one = if flow < 25 then 9 - which else 20; storm 100 9;");
        CHECK.due("the first", x.when(1), 1);
        CHECK.due("the second", x.when(2), NOBODY);
        CHECK.due("in a storm", x.then(2, 1, 0), 1);
    }

    private static void then() {
        CHECK.title("IN n MONTHS (0 .. 60)");
        SourceDispute x = Check.with(FORK + "prize 99; rains = rain + won;");
        for (int n : new int[] {0, 1, 59, 60}) {
            CHECK.due("won in " + n, x.then(1, n, 0), n);
            CHECK.due("money in " + n, x.then(1, n, 1), 99 * n);
            CHECK.due("won of the other in " + n, x.then(2, n, 0), 0);
            CHECK.due("flow in " + n, x.flowIn(n), 30 + n);
        }
        x.months(60);
        CHECK.due("won in 0", x.then(1, 0, 0), 60);
        CHECK.due("won in 60", x.then(1, 60, 0), 120);
        CHECK.due("flow in 0", x.flowIn(0), 90);
        CHECK.due("flow in 60", x.flowIn(60), 150);
        CHECK.due("nothing happens", x.count(1), 60);
        CHECK.title("IN n MONTHS with STORMS, its FLOW without one");
        for (int seed : new int[] {0, 1, 140, 9999}) {
            x = Check.with(FORK + "prize 2; storm 50 9; seed " + seed + "; rains = rain + won * which;"
                + "one = if flow - won * which < 25 then 9 - which else 20;");
            int storms = 0;
            for (int n = 0; n <= 60; n++) {
                CHECK.due("won in storms", x.then(2, n, 0), storms);
                CHECK.due("won else", x.then(1, n, 0), n - storms);
                CHECK.due("money", x.then(2, n, 1), 2 * storms);
                CHECK.due("flow by who has won", x.flowIn(n), 30 + n + storms);
                storms += Check.lot(seed, n) < 50 ? 1 : 0;
            }
        }
    }

    private static void year() {
        CHECK.title("YEAR by s SEEDS (1 .. 20), n MONTHS (0 .. 60): more often than any other");
        SourceDispute x = Check.with(FORK + "one = 9 - won * which;");
        for (int s : new int[] {1, 2, 19, 20}) {
            CHECK.due("as often is not more", x.year(1, 0, s), 0);
            CHECK.due("once more", x.year(1, 1, s), s);
            CHECK.due("as often", x.year(1, 2, s), 0);
            CHECK.due("the other one as often", x.year(2, 2, s), 0);
            CHECK.due("twice to once", x.year(1, 3, s), s);
            CHECK.due("the most months", x.year(1, 60, s), s);
        }
        x = Check.with(FORK + "prize 9;");
        x.months(1);
        x.rule(1);
        CHECK.due("as often, whatever the prize", x.year(1, 1, 1), 0);
        CHECK.due("as often, whatever the prize", x.year(2, 1, 1), 0);
        CHECK.due("twice to once", x.year(2, 2, 1), 1);
        CHECK.due("what it won before counts", x.year(1, 0, 1), 1);
        CHECK.title("YEAR: than any other SOURCE");
        x = Check.with(FORK + "place u m 1 1 1;");
        x.months(5);
        x.turn(2, 1);
        CHECK.due("who has won is no source now", x.year(1, 0, 1), NONE);
        CHECK.due("not more than another source", x.year(3, 0, 1), 0);
        CHECK.due("once", x.year(2, 1, 1), 1);
        x = Check.with("mouth m; place a m 1 1 1;");
        CHECK.due("alone", x.year(1, 0, 1), 1);
        CHECK.due("alone", x.year(1, 60, 20), 20);
    }

    /** The second one wins in storms, the first one else: by the lots of each seed. */
    private static void yearSeeds() {
        CHECK.title("YEAR from the text's SEED on, beyond 9,999 too");
        for (int seed : new int[] {0, 140, 9980, 9981, 9990, 9999}) {
            SourceDispute x = Check.with(FORK + "one = if flow < 25 then 9 - which else 20; storm 50 9; seed " + seed + ";");
            for (int s : new int[] {1, 2, 19, 20}) {
                for (int n : new int[] {1, 13, 60}) {
                    int first = 0;
                    int second = 0;
                    for (int i = 0; i < s; i++) {
                        int storms = 0;
                        for (int month = 0; month < n; month++) {
                            storms += Check.lot(seed + i, month) < 50 ? 1 : 0;
                        }
                        first += n - storms > storms ? 1 : 0;
                        second += storms > n - storms ? 1 : 0;
                    }
                    CHECK.due("first by " + s + " from " + seed + " in " + n, x.year(1, n, s), first);
                    CHECK.due("second by " + s + " from " + seed + " in " + n, x.year(2, n, s), second);
                }
            }
        }
    }

    // ---- dye

    private static void tell() {
        CHECK.title("LENGTHS from d to e (0 .. 9,999); 20 at most, numbered from 0 on");
        SourceDispute x = Check.with(FORK);
        int[][] told = {{0, 0, 0}, {2, 0, 9999}, {1, 9999, 9999}, {0, 9998, 9999}, {2, 0, 1}};
        for (int i = 0; i < 20; i++) {
            CHECK.due("told " + i, x.count(10), i);
            int[] t = told[i % told.length];
            CHECK.due("its number", x.tell(t[0], t[1], t[2], i % 2 == 0), i);
        }
        CHECK.due("full", x.count(10), 20);
        CHECK.due("forget", x.forget(), 20);
        CHECK.due("empty", x.count(10), 0);
        CHECK.due("forget nothing", x.forget(), 0);
        CHECK.due("from 0 on", x.tell(0, 0, 0, true), 0);
    }

    /** Two sources 10 and 30 behind the mouth: who is left once it is told of the mouth from d to e. */
    private static void told(int d, int e, boolean so, int left) {
        SourceDispute x = Check.with("mouth m; place a m 10 0 0; place b m 30 0 0;");
        x.tell(0, d, e, so);
        CHECK.due("left of " + d + " to " + e, x.dyed(1, 1), left);
        CHECK.due("how many", x.dyed(1, 0), Integer.bitCount(left));
        CHECK.due("nothing known", x.dyed(0, 1), 6);
    }

    private static void dyed() {
        CHECK.title("DYED: LENGTHS to it from d to e");
        told(10, 10, true, 2);
        told(10, 10, false, 4);
        told(0, 9, true, 0);
        told(0, 9, false, 6);
        told(11, 29, true, 0);
        told(11, 29, false, 6);
        told(10, 30, true, 6);
        told(10, 30, false, 0);
        told(11, 30, true, 4);
        told(10, 29, true, 2);
        told(30, 9999, true, 4);
        told(31, 9999, true, 0);
        told(0, 9999, false, 0);
        CHECK.title("DYED: the PLACE is on their way, themselves too");
        SourceDispute x = Check.with("mouth m; place a m 10 0 0; place b a 5 0 0; place c m 30 0 0;");
        x.tell(2, 0, 0, true);
        CHECK.due("itself, 0 behind", x.dyed(1, 1), 4);
        x.forget();
        x.tell(2, 1, 9999, true);
        CHECK.due("itself, not 1 behind", x.dyed(1, 1), 0);
        x.forget();
        x.tell(1, 0, 9999, false);
        CHECK.due("not by that one", x.dyed(1, 1), 8);
        x.tell(3, 0, 9999, false);
        CHECK.due("none", x.dyed(2, 1), 0);
        CHECK.due("how many", x.dyed(2, 0), 0);
        CHECK.due("by the first alone", x.dyed(1, 1), 8);
        CHECK.due("by none", x.dyed(0, 1), 12);
        x.dam(2, true);
        CHECK.due("DAMS not looked at", x.dyed(0, 0), 2);
        x.turn(3, 2);
        CHECK.due("another way", x.dyed(0, 1), 8);
        CHECK.due("by that one now", x.dyed(1, 1), 0);
        x.forget();
        for (int i = 0; i < 20; i++) {
            x.tell(3, i, i, i < 1);
        }
        CHECK.due("by all twenty", x.dyed(20, 1), 8);
        CHECK.due("watch by all twenty", x.watch(20), 0);
    }

    private static void watch() {
        CHECK.title("WATCH: fewest are left, at worst; of alike ones the first; none is left");
        SourceDispute x = Check.with("mouth m; place a m 1 0 0; place b a 1 0 0; place c a 1 0 0; place d a 1 0 0; place e m 1 0 0;");
        CHECK.due("one of four alike ones", x.watch(0), 1);
        x.tell(2, 0, 0, false);
        CHECK.due("of three", x.watch(1), 1);
        x.tell(3, 0, 0, false);
        CHECK.due("of two", x.watch(2), 1);
        x.tell(4, 0, 0, false);
        CHECK.due("of one", x.watch(3), 0);
        x.tell(5, 0, 0, false);
        CHECK.due("of none", x.watch(4), NOBODY);
        CHECK.due("of all", x.watch(0), 1);
        x = Check.with(STAR);
        CHECK.due("of eleven", x.watch(0), 1);
        x.turn(2, 11);
        x.turn(3, 11);
        CHECK.due("two by one", x.watch(0), 11);
    }

    // ---- slots, counts

    private static void slots() {
        CHECK.title("All that goes on is held in a SLOT (0 .. 2)");
        SourceDispute x = Check.with(FORK + "prize 3;");
        x.tell(1, 0, 0, true);
        for (int slot = 0; slot < 3; slot++) {
            CHECK.due("held yet", x.count(11), slot);
            CHECK.due("hold", x.hold(slot), true);
            x.dam(1 + slot % 2, slot < 2);
            x.turn(1, slot == 1 ? 2 : 0);
            x.rule(2 - slot);
            x.months(1 + slot);
        }
        CHECK.due("all are held", x.count(11), 3);
        int[][] want = {{0, 0, 0, 0, 0, 0}, {1, 2, 2, 0, 3, 0}, {3, 1, 6, 2, 9, 2}};
        for (int round = 0; round < 2; round++) {
            for (int slot = 2; slot >= 0; slot--) {
                CHECK.due("restore " + slot, x.restore(slot), true);
                int[] got = {x.count(1), x.count(3), x.count(5), x.count(14), x.count(7), x.spot(1, 9)};
                for (int i = 0; i < got.length; i++) {
                    CHECK.due(i + " of slot " + slot, got[i], want[slot][i]);
                }
                CHECK.due("not what is told", x.count(10), 1 + round * 3 + 2 - slot);
                CHECK.due("nothing can be undone", x.undo(), false);
                CHECK.due("what is held stays there", x.months(9) - 9, want[slot][0]);
                x.tell(0, 0, 0, true);
            }
        }
        CHECK.due("all are held", x.count(11), 3);
        CHECK.due("hold over", x.hold(0), true);
        CHECK.due("all are held", x.count(11), 3);
    }

    private static void due(String what, IntPredicate is, int n) {
        for (int i = 0; i < n; i++) {
            CHECK.due(what + " " + i, is.test(i), true);
        }
    }

    private static void counts() {
        CHECK.title("count at its most");
        SourceDispute x = Check.with(STAR + "storm 100 0;");
        due("forty-five things done", i -> x.months(60) == 60 * (i + 1), 45);
        due("three slots", i -> x.hold(i), 3);
        due("twenty told", i -> x.tell(0, 0, 0, true) == i, 20);
        due("a full tape", i -> x.feed(0, 0, 0, 0, 0) == 20 * (i + 1), 100);
        int[] want = {12, 2700, 0, 0, 4094, 0, 66, 2700, 2000, 40, 20, 3, 1, 66, 0, 66, 11, NONE};
        for (int what = 0; what < want.length; what++) {
            CHECK.due("count " + what, x.count(what), want[what]);
        }
    }

    /** All questions, each with the least and the most that it takes. */
    private static void nothingHappens() {
        CHECK.title("What would be (nothing happens)");
        SourceDispute x = Check.with(STAR + "storm 50 9; seed 3; prize 4; one = far + won * month; rains = rain + won; dries = 1;");
        x.months(3);
        x.dam(2, true);
        x.turn(4, 9);
        x.hold(1);
        x.rule(1);
        x.tell(9, 0, 20, true);
        String before = Check.print(x);
        for (int least = 0; least < 2; least++) {
            int law = 2 * least;
            int p = 1 + 10 * least;
            int ahead = 1 + 23 * least;
            int n = 60 * least;
            int[] answers = {x.agree(ahead), x.behind(p, law), x.margin(law), x.richest(least), x.rank(p, law), x.vote(least),
                x.dams(9999 * least, -1), x.dams(0, 2 * least), x.loss(p), x.main(least), x.driest(ahead, least),
                x.turnFor(p, law), x.damFor(p, law), x.depth(), x.order(p), x.basin(p, least), x.part(p),
                x.reign(law, ahead, least), x.tour(), x.parted(), x.meet(p, 11 - least, least), x.when(p),
                x.then(p, n, least), x.flowIn(n), x.year(p, n, 1 + 19 * least), x.dyed(least, least), x.watch(least)};
            CHECK.due("answers", answers.length, 27);
        }
        CHECK.same("all questions", x, before);
        CHECK.due("the last thing is undone", x.undo(), true);
        CHECK.due("the law", x.count(3), 0);
        CHECK.due("what is held is restored", x.restore(1), true);
        int[] want = {12, 3, 3, 0, 4094 - 512, 4};
        for (int what = 0; what < want.length; what++) {
            CHECK.due("count " + what, x.count(what), want[what]);
        }
        CHECK.due("turned", x.count(14), 16);
        CHECK.due("money", x.count(7), 12);
    }
}
