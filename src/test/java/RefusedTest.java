import java.util.function.IntUnaryOperator;

/** Calls that are refused: for each argument what is too small, too large, or no such one; nothing happens. */
public final class RefusedTest {
    private static final Check CHECK = new Check();
    private static final int NONE = -1;
    private static final int NOBODY = -2;
    private static final int MAX = Integer.MAX_VALUE;
    private static final int MIN = Integer.MIN_VALUE;
    /** Sources b (2), c (3), e (5). */
    private static final String RIVER = "mouth bar; place a bar 10 5 1; place b a 20 3 9; place c a 5 8 2;"
        + "place d bar 30 4 9; place e d 8 2 3; dries = length / 10; prize 7; storm 30 9; seed 5;";
    /** No such PLACE of six: also those that are one of them by their last bits. */
    private static final int[] NO_PLACES = {-1, -2, MIN, MIN + 1, -32, -31, 6, 7, 12, 31, 32, 33, 37, 64, 256, 65536, MAX};
    private static final int[] NO_SOURCES = {0, 1, 4, -1, MIN, 6, 11, 12, 34, 35, 37, MAX};
    private static final int[] NO_LAWS = {-1, -2, MIN, 3, 4, 5, 32, MAX};
    private static final int[] NO_WHATS = {-1, -2, MIN, 2, 3, 32, MAX};

    private static SourceDispute x;

    public static void main(String[] args) {
        spots();
        claims();
        byHand();
        weighings();
        water();
        ahead();
        future();
        shapes();
        dye();
        slots();
        noMouth();
        mouthAlone();
        noneAheadOfNobody();
        CHECK.finish();
    }

    /** A river of which something has been done, so that what happens can be seen. */
    private static SourceDispute begun() {
        SourceDispute begun = Check.with(RIVER);
        begun.months(2);
        begun.turn(5, 0);
        begun.turn(5, 4);
        begun.dam(3, true);
        begun.rule(1);
        begun.hold(1);
        begun.tell(1, 0, 30, true);
        return begun;
    }

    /** Each of these arguments is answered so, and nothing happens. */
    private static void refused(String call, int answer, int[] arguments, IntUnaryOperator asked) {
        CHECK.title(call);
        x = begun();
        String before = Check.print(x);
        for (int argument : arguments) {
            CHECK.due("for " + argument, asked.applyAsInt(argument), answer);
        }
        CHECK.same("all of these", x, before);
    }

    private static void none(String call, int[] arguments, IntUnaryOperator asked) {
        refused(call, NONE, arguments, asked);
    }

    private static int bool(boolean so) {
        return so ? 1 : 0;
    }

    private static int[] outside(int least, int most) {
        return new int[] {least - 1, MIN, -most, most + 1, most + 2, 32 + most, MAX};
    }

    private static void spots() {
        for (int what = 0; what <= 12; what++) {
            int asked = what;
            none("spot(?, " + what + ")", NO_PLACES, p -> x.spot(p, asked));
        }
        for (int place = 0; place < 6; place++) {
            int asked = place;
            none("spot(" + place + ", ?)", outside(0, 12), what -> x.spot(asked, what));
        }
        none("spot(?, 13)", NO_PLACES, p -> x.spot(p, 13));
        none("count(?)", outside(0, 16), what -> x.count(what));
    }

    private static void claims() {
        for (int law = 0; law < 3; law++) {
            int asked = law;
            none("claim(?, " + law + ")", NO_SOURCES, p -> x.claim(p, asked));
            none("behind(?, " + law + ")", NO_SOURCES, p -> x.behind(p, asked));
            none("rank(?, " + law + ")", NO_SOURCES, p -> x.rank(p, asked));
            none("turnFor(?, " + law + ")", NO_SOURCES, p -> x.turnFor(p, asked));
            none("damFor(?, " + law + ")", NO_SOURCES, p -> x.damFor(p, asked));
        }
        for (int source : new int[] {2, 3, 5}) {
            none("claim(" + source + ", ?)", NO_LAWS, law -> x.claim(source, law));
            none("behind(" + source + ", ?)", NO_LAWS, law -> x.behind(source, law));
            none("rank(" + source + ", ?)", NO_LAWS, law -> x.rank(source, law));
            none("turnFor(" + source + ", ?)", NO_LAWS, law -> x.turnFor(source, law));
            none("damFor(" + source + ", ?)", NO_LAWS, law -> x.damFor(source, law));
        }
        none("winner(?)", NO_LAWS, law -> x.winner(law));
        none("margin(?)", NO_LAWS, law -> x.margin(law));
    }

    private static void byHand() {
        refused("dam(?, true)", 0, NO_PLACES, p -> bool(x.dam(p, true)));
        refused("dam(?, false)", 0, NO_PLACES, p -> bool(x.dam(p, false)));
        refused("dam(?, true): it is so, the MOUTH", 0, new int[] {0, 3}, p -> bool(x.dam(p, true)));
        refused("dam(?, false): it is so, the MOUTH", 0, new int[] {0, 1, 2, 4, 5}, p -> bool(x.dam(p, false)));
        for (int place = 0; place < 6; place++) {
            int asked = place;
            refused("turn(?, " + place + ")", 0, NO_PLACES, p -> bool(x.turn(p, asked)));
            refused("turn(" + place + ", ?)", 0, NO_PLACES, into -> bool(x.turn(asked, into)));
            refused("turn(?, ?): itself", 0, new int[] {place}, p -> bool(x.turn(p, p)));
            refused("turn(0, ?): the MOUTH", 0, new int[] {place}, into -> bool(x.turn(0, into)));
        }
        refused("turn(?, ?): both no such ones", 0, NO_PLACES, p -> bool(x.turn(p, p)));
        refused("turn(1, ?): above it, into that already", 0, new int[] {2, 3, 0}, into -> bool(x.turn(1, into)));
        refused("turn(4, ?): above it, into that already", 0, new int[] {5, 0}, into -> bool(x.turn(4, into)));
        refused("turn(2, 1): into that already", 0, new int[] {1}, into -> bool(x.turn(2, into)));
        refused("rule(?)", 0, NO_LAWS, law -> bool(x.rule(law)));
        refused("rule(1): it does", 0, new int[] {1}, law -> bool(x.rule(law)));
        none("months(?)", outside(0, 60), n -> x.months(n));
        refused("months(0) is no thing done", 2, new int[] {0, 0}, n -> x.months(n));
        none("back(?)", new int[] {-1, 1, 20, MIN, MAX}, n -> x.back(n));
    }

    private static void weighings() {
        none("richest(?)", NO_WHATS, what -> x.richest(what));
        none("vote(?)", NO_WHATS, what -> x.vote(what));
    }

    private static void water() {
        for (int i = -1; i <= 2; i++) {
            int asked = i;
            none("dams(?, " + i + ")", new int[] {-1, MIN, 10000, 10001, MAX}, v -> x.dams(v, asked));
        }
        for (int v : new int[] {0, 5, 9999}) {
            none("dams(" + v + ", ?)", new int[] {-2, -3, MIN, 3, 4, 32, MAX}, i -> x.dams(v, i));
        }
        none("dams(9999, ?): not so many", new int[] {0, 1, 2}, i -> x.dams(9999, i));
        none("dams(0, ?): not so many", new int[] {2}, i -> x.dams(0, i));
        none("loss(?)", NO_PLACES, p -> x.loss(p));
        none("loss(0): the MOUTH", new int[] {0}, p -> x.loss(p));
        none("part(?)", NO_PLACES, p -> x.part(p));
        none("part(0): the MOUTH", new int[] {0}, p -> x.part(p));
        none("main(?)", new int[] {-1, MIN, 3, 4, 12, MAX}, i -> x.main(i));
    }

    private static void ahead() {
        none("agree(?)", outside(1, 24), n -> x.agree(n));
        for (int what = 0; what < 2; what++) {
            int asked = what;
            none("driest(?, " + what + ")", outside(1, 24), n -> x.driest(n, asked));
            none("reign(0, ?, " + what + ")", outside(1, 24), n -> x.reign(0, n, asked));
            none("reign(?, 1, " + what + ")", NO_LAWS, law -> x.reign(law, 1, asked));
        }
        for (int n : new int[] {1, 24}) {
            none("driest(" + n + ", ?)", NO_WHATS, what -> x.driest(n, what));
            none("reign(2, " + n + ", ?)", NO_WHATS, what -> x.reign(2, n, what));
        }
        none("driest(25, ?)", NO_WHATS, what -> x.driest(25, what));
        none("reign(3, ?, 2)", outside(1, 24), n -> x.reign(3, n, 2));
    }

    private static void future() {
        none("when(?)", NO_SOURCES, p -> x.when(p));
        for (int what = 0; what < 2; what++) {
            int asked = what;
            none("then(?, 1, " + what + ")", NO_SOURCES, p -> x.then(p, 1, asked));
            none("then(2, ?, " + what + ")", outside(0, 60), n -> x.then(2, n, asked));
        }
        for (int n : new int[] {0, 60}) {
            none("then(5, " + n + ", ?)", NO_WHATS, what -> x.then(5, n, what));
            none("year(?, " + n + ", 1)", NO_SOURCES, p -> x.year(p, n, 1));
            none("year(3, " + n + ", ?)", outside(1, 20), s -> x.year(3, n, s));
        }
        none("flowIn(?)", outside(0, 60), n -> x.flowIn(n));
        none("year(3, ?, 1)", outside(0, 60), n -> x.year(3, n, 1));
        none("year(3, ?, 20)", outside(0, 60), n -> x.year(3, n, 20));
    }

    private static void shapes() {
        none("order(?)", NO_PLACES, p -> x.order(p));
        for (int what = 0; what < 2; what++) {
            int asked = what;
            none("basin(?, " + what + ")", NO_PLACES, p -> x.basin(p, asked));
            for (int place = 0; place < 6; place++) {
                int other = place;
                none("meet(?, " + place + ", " + what + ")", NO_PLACES, p -> x.meet(p, other, asked));
                none("meet(" + place + ", ?, " + what + ")", NO_PLACES, p -> x.meet(other, p, asked));
            }
            none("meet(?, ?, " + what + ")", NO_PLACES, p -> x.meet(p, p, asked));
        }
        for (int place = 0; place < 6; place++) {
            int asked = place;
            none("basin(" + place + ", ?)", NO_WHATS, what -> x.basin(asked, what));
            none("meet(" + place + ", 0, ?)", NO_WHATS, what -> x.meet(asked, 0, what));
        }
    }

    private static void dye() {
        none("tell(?, 0, 0, true)", NO_PLACES, p -> x.tell(p, 0, 0, true));
        none("tell(?, 0, 9999, false)", NO_PLACES, p -> x.tell(p, 0, 9999, false));
        none("tell(1, ?, 9999, true)", new int[] {-1, MIN, 10000, MAX}, d -> x.tell(1, d, 9999, true));
        none("tell(1, 0, ?, true)", new int[] {-1, MIN, 10000, 10001, MAX}, e -> x.tell(1, 0, e, true));
        none("tell(1, ?, ?, true)", new int[] {-1, MIN, 10000, MAX}, d -> x.tell(1, d, d, true));
        none("tell(1, 30, ?, true): e below d", new int[] {29, 28, 0, -1}, e -> x.tell(1, 30, e, true));
        none("tell(1, 9999, ?, true): e below d", new int[] {9998, 0}, e -> x.tell(1, 9999, e, true));
        for (int what = 0; what < 2; what++) {
            int asked = what;
            none("dyed(?, " + what + ")", new int[] {-1, MIN, 2, 3, 20, 21, MAX}, k -> x.dyed(k, asked));
        }
        for (int k = 0; k < 2; k++) {
            int asked = k;
            none("dyed(" + k + ", ?)", NO_WHATS, what -> x.dyed(asked, what));
        }
        none("watch(?)", new int[] {-1, MIN, 2, 3, 20, 21, MAX}, k -> x.watch(k));
        CHECK.title("tell: 20 are there");
        x = begun();
        for (int i = 1; i < 20; i++) {
            CHECK.due("its number", x.tell(4, 0, 9999, false), i);
        }
        String before = Check.print(x);
        CHECK.due("a 21st", x.tell(5, 0, 0, true), NONE);
        CHECK.due("one that is none", x.tell(6, 0, 0, true), NONE);
        CHECK.same("a 21st", x, before);
        CHECK.due("20 are known", x.dyed(20, 0), x.dyed(19, 0));
        CHECK.due("21 are not", x.dyed(21, 0), NONE);
        CHECK.due("nor watched", x.watch(21), NONE);
        CHECK.due("forget", x.forget(), 20);
        CHECK.due("the first anew", x.tell(5, 0, 0, true), 0);
    }

    private static void slots() {
        int[] no = {-1, -2, MIN, 3, 4, 31, 32, 33, 34, MAX};
        refused("hold(?)", 0, no, slot -> bool(x.hold(slot)));
        refused("restore(?)", 0, no, slot -> bool(x.restore(slot)));
        refused("restore(?): nothing is held", 0, new int[] {0, 2}, slot -> bool(x.restore(slot)));
        CHECK.title("undo: there is none");
        x = Check.with(RIVER);
        String before = Check.print(x);
        CHECK.due("undo", x.undo(), false);
        CHECK.same("undo", x, before);
    }

    /** A new object: no PLACE, no SOURCE, no FLOW. */
    private static void noMouth() {
        CHECK.title("no MOUTH");
        x = new SourceDispute();
        String before = Check.print(x);
        for (int p : new int[] {-1, 0, 1, 11, 12}) {
            for (int what = -1; what <= 13; what++) {
                CHECK.due("spot", x.spot(p, what), NONE);
            }
            int[] answers = {x.claim(p, 0), x.behind(p, 0), x.rank(p, 0), x.loss(p), x.turnFor(p, 0), x.damFor(p, 0),
                x.order(p), x.basin(p, 0), x.basin(p, 1), x.part(p), x.meet(p, p, 0), x.meet(p, p, 1), x.when(p),
                x.then(p, 1, 0), x.year(p, 1, 1), x.tell(p, 0, 0, true), x.main(p), x.dams(0, p), x.dams(9999, p),
                x.driest(1, 0), x.driest(1, 1), x.flowIn(0), x.flowIn(60)};
            for (int i = 0; i < answers.length; i++) {
                CHECK.due("answer " + i + " for " + p, answers[i], NONE);
            }
            CHECK.due("dam", x.dam(p, true) || x.dam(p, false), false);
            CHECK.due("turn", x.turn(p, 0) || x.turn(0, p) || x.turn(p, p), false);
        }
        CHECK.same("all of these", x, before);
        sourceless();
    }

    private static void mouthAlone() {
        CHECK.title("the MOUTH alone");
        x = Check.with("mouth m; rains = 5;");
        for (int p : new int[] {-1, 0, 1, 11, 12}) {
            int[] answers = {x.claim(p, 0), x.behind(p, 0), x.rank(p, 0), x.loss(p), x.turnFor(p, 0), x.damFor(p, 0),
                x.part(p), x.when(p), x.then(p, 1, 0), x.year(p, 1, 1)};
            for (int i = 0; i < answers.length; i++) {
                CHECK.due("answer " + i + " for " + p, answers[i], NONE);
            }
            CHECK.due("dam", x.dam(p, true) || x.dam(p, false), false);
            CHECK.due("turn", x.turn(p, 0) || x.turn(0, p) || x.turn(p, p), false);
        }
        int[] want = {-2, 0, 0, 0, 0, 5, 0, 0, 0, 0, 0, 5, 0, NONE};
        for (int what = 0; what < want.length; what++) {
            CHECK.due("spot " + what, x.spot(0, what), want[what]);
        }
        CHECK.due("dams for its own rain", x.dams(5, NONE), 0);
        CHECK.due("none of none", x.dams(5, 0), NONE);
        CHECK.due("dams for less", x.dams(4, NONE), NOBODY);
        CHECK.due("main", x.main(0), 0);
        CHECK.due("main", x.main(1), NONE);
        CHECK.due("driest", x.driest(24, 0), 0);
        CHECK.due("driest", x.driest(24, 1), 5);
        CHECK.due("order", x.order(0), 1);
        CHECK.due("basin", x.basin(0, 0), 1);
        CHECK.due("basin", x.basin(0, 1), 5);
        CHECK.due("meet", x.meet(0, 0, 0), 0);
        CHECK.due("meet", x.meet(0, 0, 1), 0);
        CHECK.due("flow", x.flowIn(60), 5);
        CHECK.due("tell", x.tell(0, 0, 0, true), 0);
        CHECK.due("greatest far", x.count(16), 0);
        sourceless();
    }

    private static void sourceless() {
        for (int law = 0; law < 3; law++) {
            CHECK.due("winner", x.winner(law), NOBODY);
            CHECK.due("margin", x.margin(law), NOBODY);
            CHECK.due("reign", x.reign(law, 1, 0), 0);
            CHECK.due("reign", x.reign(law, 24, 1), NOBODY);
        }
        CHECK.due("agree", x.agree(1), 0);
        CHECK.due("agree", x.agree(24), 0);
        CHECK.due("richest", x.richest(0), NOBODY);
        CHECK.due("richest", x.richest(1), NOBODY);
        CHECK.due("vote", x.vote(0), NOBODY);
        CHECK.due("vote", x.vote(1), NOBODY);
        CHECK.due("depth", x.depth(), 0);
        CHECK.due("tour", x.tour(), 0);
        CHECK.due("parted", x.parted(), 0);
        CHECK.due("dyed", x.dyed(0, 0), 0);
        CHECK.due("dyed", x.dyed(0, 1), 0);
        CHECK.due("watch", x.watch(0), NOBODY);
        CHECK.due("sources", x.count(4), 0);
        CHECK.due("forget", x.forget() >= 0, true);
        CHECK.due("forget", x.forget(), 0);
    }

    private static void noneAheadOfNobody() {
        CHECK.title("Where NONE and -2 could both be told, it is NONE");
        for (String text : new String[] {"", "mouth m;"}) {
            x = Check.with(text);
            for (int no : new int[] {-1, 3, MIN, MAX}) {
                CHECK.due("winner", x.winner(no), NONE);
                CHECK.due("margin", x.margin(no), NONE);
                CHECK.due("richest", x.richest(no), NONE);
                CHECK.due("vote", x.vote(no), NONE);
                CHECK.due("reign", x.reign(no, 1, 1), NONE);
                CHECK.due("reign", x.reign(0, 1, no), NONE);
                CHECK.due("reign", x.reign(0, no == 3 ? 25 : no, 1), NONE);
                CHECK.due("watch", x.watch(no), NONE);
                CHECK.due("spot", x.spot(no, 0), NONE);
            }
        }
        x = Check.with("mouth m; place a m 1 1 1;");
        CHECK.due("margin", x.margin(0), NOBODY);
        CHECK.due("margin", x.margin(3), NONE);
        CHECK.due("margin", x.margin(-1), NONE);
        x = Check.with("mouth m; place a m 1 1 1; rains = 9;");
        CHECK.due("dams", x.dams(0, NONE), NOBODY);
        for (int i = 0; i <= 2; i++) {
            CHECK.due("not by three (i NONE or not)", x.dams(0, i), NOBODY);
        }
        CHECK.due("no such i", x.dams(0, 3), NONE);
        CHECK.due("no such i", x.dams(0, -2), NONE);
        CHECK.due("no such v", x.dams(-1, 0), NONE);
        x = Check.with("mouth m; place a m 9 1 1; place b m 8 1 1; place c m 1 1 1;");
        CHECK.due("no turn", x.turnFor(3, 0), NOBODY);
        CHECK.due("no law", x.turnFor(3, 3), NONE);
        CHECK.due("no dam", x.damFor(3, 0), NOBODY);
        CHECK.due("no law", x.damFor(3, -1), NONE);
        CHECK.due("not", x.when(3), NOBODY);
        CHECK.due("no source", x.when(0), NONE);
    }
}
