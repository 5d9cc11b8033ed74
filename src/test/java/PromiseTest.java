/** The promises, each with ordinary inputs, the edges that the document names, and wrong inputs. */
public final class PromiseTest {
    private static final Check CHECK = new Check();
    private static final int NONE = -1;
    /** Sources b (2), c (3), e (5); flows: a 14, b 3, c 8, d 6, e 2, the mouth 16. */
    private static final String RIVER = "mouth bar; place a bar 10 5 1; place b a 20 3 9; place c a 5 8 2;"
        + "place d bar 30 4 9; place e d 8 2 3; dries = length / 10; prize 7;";
    /** Two sources far alike, s and t. */
    private static final String FORK = "mouth m; place s m 5 10 3; place t m 5 20 4;";
    private static final int MAX = Integer.MAX_VALUE;
    private static final int MIN = Integer.MIN_VALUE;

    public static void main(String[] args) {
        anew();
        feedAndBack();
        readAndPlace();
        spots();
        lawsAndVars();
        claimsAndWinners();
        dammed();
        turned();
        ruled();
        monthsAndStorms();
        undone();
        agreed();
        behindAndMargin();
        richest();
        ranksAndVotes();
        fewestDams();
        lossAndPart();
        mainWay();
        driest();
        turnAndDamFor();
        depthAndOrder();
        basins();
        reigns();
        toursAndParted();
        meetings();
        whens();
        thens();
        years();
        tellings();
        watches();
        heldAndRestored();
        counts();
        smallRivers();
        leastNumbers();
        untold();
        CHECK.finish();
    }

    private static SourceDispute title(int promise, String text) {
        CHECK.title("promise " + promise);
        return Check.with(text);
    }

    private static void anew() {
        CHECK.title("promise 1");
        SourceDispute x = new SourceDispute();
        int[] want = {0, 0, 0, 0, 0, 0, 0, 0, 0, 0, 0, 0, 0, 0, 0, 0, 0, NONE};
        for (int what = 0; what < want.length; what++) {
            CHECK.due("count " + what, x.count(what), want[what]);
        }
        CHECK.due("place", x.place(), NONE);
        CHECK.due("spot", x.spot(0, 0), NONE);
        CHECK.due("undo", x.undo(), false);
        CHECK.due("NONE", SourceDispute.NONE, -1);
        CHECK.due("another one", new SourceDispute() == x, false);
    }

    private static void feedAndBack() {
        CHECK.title("promise 2");
        SourceDispute x = new SourceDispute();
        for (int i = 1; i <= 100; i++) {
            CHECK.due("feed", x.feed(MIN, -1, 0, MAX, 0x20202020), 20 * i);
        }
        CHECK.due("feed too many", x.feed(0, 0, 0, 0, 0), NONE);
        CHECK.due("bytes", x.count(8), 2000);
        CHECK.title("promise 3");
        CHECK.due("back 2001", x.back(2001), NONE);
        CHECK.due("back -1", x.back(-1), NONE);
        CHECK.due("back least", x.back(MIN), NONE);
        CHECK.due("back 19", x.back(19), 1981);
        CHECK.due("feed", x.feed(0, 0, 0, 0, 0), NONE);
        CHECK.due("back 1", x.back(1), 1980);
        CHECK.due("back 0", x.back(0), 1980);
        CHECK.due("feed", x.feed(0, 0, 0, 0, 0), 2000);
        CHECK.due("back all", x.back(2000), 0);
        CHECK.due("back 1", x.back(1), NONE);
        CHECK.due("back 0", x.back(0), 0);
        // the highest byte of a first: "prize 0;" and blanks, then a letter in each of the five
        x.feed(0x7072697a, 0x6520303b, 0x20202041, 0x20202020, 0x20202020);
        CHECK.due("read", x.read(), 1);
        CHECK.due("place", x.place(), 11);
        x.feed(0x20202020, 0x20202020, 0x20202020, 0x20412020, 0x20202020);
        CHECK.due("read", x.read(), 1);
        CHECK.due("place", x.place(), 13);
        x.feed(0x20202020, 0x20202020, 0x20202020, 0x20202020, 0x20204120);
        CHECK.due("read", x.read(), 1);
        CHECK.due("place", x.place(), 18);
    }

    private static void readAndPlace() {
        SourceDispute x = title(4, RIVER);
        x.dam(1, true);
        x.months(2);
        x.hold(1);
        x.tell(0, 0, 0, true);
        CHECK.due("read with a fault", Check.read(x, "mouth m; place a b 1 1 1;"), 4);
        CHECK.title("promise 5");
        CHECK.due("place", x.place(), 17);
        CHECK.due("places", x.count(0), 6);
        CHECK.due("month", x.count(1), 2);
        CHECK.due("dams", x.count(5), 2);
        CHECK.due("tape", x.count(8), 0);
        CHECK.due("to undo", x.count(9), 2);
        CHECK.due("told", x.count(10), 1);
        CHECK.due("held", x.count(11), 1);
        CHECK.due("flow is as it was", x.spot(2, 12), 2);
        CHECK.due("place again", x.place(), 17);
        CHECK.title("promise 4");
        x.rule(2);
        x.turn(2, 0);
        CHECK.due("read anew", Check.read(x, "mouth m; place a m 3 1 1;"), 0);
        CHECK.due("place", x.place(), NONE);
        int[] want = {2, 0, 0, 0, 2, 0, 1, 0, 0, 0, 0, 0, 0, 3, 0, 1, 3};
        for (int what = 0; what < want.length; what++) {
            CHECK.due("count " + what, x.count(what), want[what]);
        }
        CHECK.due("restore", x.restore(1), false);
        CHECK.due("undo", x.undo(), false);
        CHECK.due("prize is told no more", x.months(1), 1);
        CHECK.due("money", x.spot(1, 10), 1);
        CHECK.due("dries is told no more", x.spot(1, 12), 0);
        CHECK.due("read nothing", x.read(), 0);
        CHECK.due("places", x.count(0), 0);
        CHECK.due("month", x.count(1), 0);
        x = title(4, "one = 1; one = 2; prize 3; prize 4; mouth m; place a m 1 2 3; storm 100 5; storm 0 5;");
        CHECK.due("the last law", x.claim(1, 0), 2);
        CHECK.due("the last storm", x.count(12), 0);
        x.months(1);
        CHECK.due("the last prize", x.spot(1, 10), 4);
    }

    private static void spots() {
        SourceDispute x = title(6, RIVER);
        x.dam(2, true);
        x.months(2);
        int[][] want = {
            {-2, 0, 0, 0, 0, 15, 0, 5, 0, 0, 0, 0, 0},
            {0, 10, 5, 1, 0, 13, 10, 2, 0, 0, 0, 5, 1},
            {1, 20, 3, 9, 1, 3, 30, 0, 1, 0, 0, 3, 2},
            {1, 5, 8, 2, 0, 8, 15, 0, 1, 0, 0, 8, 0},
            {0, 30, 4, 9, 0, 6, 30, 1, 0, 0, 0, 4, 3},
            {4, 8, 2, 3, 0, 2, 38, 0, 1, 2, 14, 2, 0}};
        for (int p = 0; p < want.length; p++) {
            for (int what = 0; what <= 12; what++) {
                CHECK.due("spot " + p + " " + what, x.spot(p, what), want[p][what]);
            }
            CHECK.due("spot -1", x.spot(p, -1), NONE);
            CHECK.due("spot 13", x.spot(p, 13), NONE);
        }
        CHECK.due("no such place", x.spot(6, 0), NONE);
        CHECK.due("no such place", x.spot(-1, 0), NONE);
        CHECK.due("no such place", x.spot(MAX, MAX), NONE);
        CHECK.due("no such place", x.spot(MIN, 3), NONE);
    }

    private static void law(String law, int want) {
        SourceDispute x = Check.with("mouth m; place a m 7 11 13; place b a 5 17 19; one = " + law + ";");
        CHECK.due("one = " + law, x.claim(2, 0), want);
    }

    private static void lawsAndVars() {
        CHECK.title("laws");
        law("rain", 17);
        law("far", 12);
        law("tale", 19);
        law("month", 0);
        law("flow", 17);
        law("length", 5);
        law("won", 0);
        law("which", 2);
        law("above", 0);
        law("1 + 2 * 3 - 4 / 2", 5);
        law("(1 + 2) * 3", 9);
        law("9 - 3 - 2", 4);
        law("100 / 7 / 3", 4);
        law("0 - (0 - 7) / 2", 3);
        law("(0 - 7) / 2 + 10", 7);
        law("7 / (1 - 1)", 0);
        law("5 + 0 * (7 / 0)", 0);
        law("if 1 < 2 then 3 else 1 / 0", 3);
        law("if 2 < 1 then 1 / 0 else 4", 4);
        law("if 2 < 2 then 3 else 4", 4);
        law("if 1 / 0 < 2 then 3 else 4", 0);
        law("if 1 < 1 / 0 then 3 else 4", 0);
        law("if 2 < 1 then 3 else if 1 < 2 then 4 else 5", 4);
        law("if 1 < 2 then 3 else if 1 < 2 then 4 else 5", 3);
        law("0 - 5", 0);
        law("9999 * 9999", 99999);
        law("9999 * 11 - 9990", 99999);
        law("9999 * 10 + 8", 99998);
        law("9999 * 9999 * 9999 / 9999 + 9999", 0);
        law("9999 * 9999 * 43 / 9999", 417);
        law("(0 - 2048 * 1024 * 1024) / (0 - 1) / 1024 / 1024 + 2048", 0);
        law("((((((far))))))", 12);
        SourceDispute x = Check.with("mouth m; place a m 7 11 13; rains = 5000; dries = 0 - 3; one = month + won * 100;");
        CHECK.due("rains at most", x.spot(1, 11), 999);
        CHECK.due("rains at the mouth", x.spot(0, 11), 999);
        CHECK.due("dries at least", x.spot(1, 12), 0);
        CHECK.due("flow", x.count(6), 1998);
        x.months(13);
        CHECK.due("moon and won", x.claim(1, 0), 1301);
        x = Check.with("mouth m; place a m 7 11 13; rains = flow + 1 - rain; dries = flow + 5;");
        CHECK.due("rains at least", x.spot(1, 11), 0);
        CHECK.due("flow is 0 for rains", x.spot(0, 11), 1);
        x = Check.with("mouth m; place a m 7 50 13; dries = flow / 2 + 1;");
        CHECK.due("dries by what comes", x.spot(1, 12), 26);
        CHECK.due("what is left", x.count(6), 24);
        x = Check.with("mouth m; place a m 7 50 13; dries = flow * 2;");
        CHECK.due("dries all there is", x.spot(1, 12), 50);
        CHECK.due("nothing is left", x.count(6), 0);
        x = Check.with("mouth m; place a m 7 50 13; dries = above * 3; place b a 1 4 1; rains = rain + above;");
        CHECK.due("above", x.count(6), 50 + 1 + 4 - 3 + 2);
    }

    private static void claimsAndWinners() {
        SourceDispute x = title(7, RIVER);
        int[][] want = {{30, 15, 38}, {3, 8, 2}, {9, 2, 3}};
        int[] sources = {2, 3, 5};
        for (int law = 0; law < 3; law++) {
            for (int i = 0; i < 3; i++) {
                CHECK.due("claim", x.claim(sources[i], law), want[law][i]);
            }
            CHECK.due("no source", x.claim(0, law), NONE);
            CHECK.due("no source", x.claim(1, law), NONE);
            CHECK.due("no place", x.claim(6, law), NONE);
            CHECK.due("no place", x.claim(-1, law), NONE);
        }
        CHECK.due("no law", x.claim(2, 3), NONE);
        CHECK.due("no law", x.claim(2, -1), NONE);
        CHECK.title("promise 8");
        CHECK.due("winner 0", x.winner(0), 5);
        CHECK.due("winner 1", x.winner(1), 3);
        CHECK.due("winner 2", x.winner(2), 2);
        CHECK.due("no law", x.winner(3), NONE);
        CHECK.due("no law", x.winner(-1), NONE);
        CHECK.due("of alike ones", Check.with(FORK).winner(0), 1);
        CHECK.due("no sources", Check.with("mouth m;").winner(0), -2);
        CHECK.due("no sources, no law", Check.with("mouth m;").winner(3), NONE);
        x = Check.with("mouth m; place a m 1 1 1; place b m 1 2 1; storm 100 50; one = flow;");
        CHECK.due("without a storm", x.claim(2, 0), 2);
    }

    private static void dammed() {
        SourceDispute x = title(9, RIVER);
        CHECK.due("the mouth", x.dam(0, true), false);
        CHECK.due("the mouth", x.dam(0, false), false);
        CHECK.due("no place", x.dam(6, true), false);
        CHECK.due("no place", x.dam(-1, false), false);
        CHECK.due("it is so", x.dam(1, false), false);
        CHECK.due("nothing is done", x.count(9), 0);
        CHECK.due("dam", x.dam(1, true), true);
        CHECK.due("it is so", x.dam(1, true), false);
        CHECK.due("done", x.count(9), 1);
        CHECK.due("flow at it", x.spot(1, 5), 14);
        CHECK.due("flow", x.count(6), 3);
        CHECK.due("no more", x.dam(1, false), true);
        CHECK.due("flow", x.count(6), 16);
    }

    private static void turned() {
        SourceDispute x = title(10, RIVER);
        CHECK.due("into it already", x.turn(2, 1), false);
        CHECK.due("above it", x.turn(1, 2), false);
        CHECK.due("itself", x.turn(1, 1), false);
        CHECK.due("the mouth", x.turn(0, 1), false);
        CHECK.due("the mouth", x.turn(0, 0), false);
        CHECK.due("no place", x.turn(6, 0), false);
        CHECK.due("no place", x.turn(1, 6), false);
        CHECK.due("no place", x.turn(-1, 0), false);
        CHECK.due("no place", x.turn(1, -1), false);
        CHECK.due("nothing is done", x.count(9), 0);
        CHECK.due("turn", x.turn(1, 5), true);
        CHECK.due("into", x.spot(1, 0), 5);
        CHECK.due("length", x.spot(1, 1), 10);
        CHECK.due("far", x.spot(2, 6), 20 + 10 + 8 + 30);
        CHECK.due("above", x.spot(4, 7), 4);
        CHECK.due("no source", x.spot(5, 8), 0);
        CHECK.due("above it", x.turn(4, 3), false);
        CHECK.due("into the mouth", x.turn(5, 0), true);
        CHECK.due("now not above it", x.turn(4, 3), true);
        CHECK.due("turned", x.count(14), 2 + 16 + 32);
    }

    private static void ruled() {
        SourceDispute x = title(11, RIVER);
        CHECK.due("it does", x.rule(0), false);
        CHECK.due("no law", x.rule(3), false);
        CHECK.due("no law", x.rule(-1), false);
        CHECK.due("nothing is done", x.count(9), 0);
        CHECK.due("rule", x.rule(2), true);
        CHECK.due("rules", x.count(3), 2);
        CHECK.due("it does", x.rule(2), false);
        x.months(1);
        CHECK.due("won by it", x.spot(2, 9), 1);
        CHECK.due("rule", x.rule(0), true);
    }

    private static void monthsAndStorms() {
        SourceDispute x = title(12, RIVER);
        CHECK.due("0 months", x.months(0), 0);
        CHECK.due("nothing is done", x.count(9), 0);
        CHECK.due("no such n", x.months(-1), NONE);
        CHECK.due("no such n", x.months(61), NONE);
        CHECK.due("nothing is done", x.count(9), 0);
        CHECK.due("months", x.months(60), 60);
        CHECK.due("months", x.months(1), 61);
        CHECK.due("0 months", x.months(0), 61);
        CHECK.due("moon", x.count(2), 1);
        CHECK.due("won", x.spot(5, 9), 61);
        CHECK.due("money", x.spot(5, 10), 427);
        for (int i = 0; i < 16; i++) {
            x.months(60);
        }
        CHECK.due("at most", x.spot(5, 9), 999);
        CHECK.due("money goes on", x.spot(5, 10), 7 * (61 + 960));
        // a storm brings more to each place, the winner is by what flows then
        String wet = "mouth m; place a m 1 1 1; place b a 1 1 1; place c m 1 2 1; place d b 1 0 1; place e a 1 0 2;"
            + "two = if 6 < flow then 9 - which else which; storm 100 7;";
        x = Check.with(wet);
        CHECK.due("storm", x.count(12), 1);
        CHECK.due("flow without", x.spot(3, 5), 2);
        CHECK.due("winner without", x.winner(1), 5);
        x.rule(1);
        x.months(1);
        CHECK.due("winner with", x.spot(3, 9), 1);
        x = Check.with("storm 1 1;" + wet.replace("100", "0"));
        CHECK.due("no storm", x.count(12), 0);
        storms();
    }

    /** Storms by the lot: chances of 100 months each, against the lot written out. */
    private static void storms() {
        for (int seed : new int[] {0, 7, 9999}) {
            for (int chance : new int[] {1, 35, 99}) {
                SourceDispute x = Check.with("storm " + chance + " 9; seed " + seed + ";");
                for (int month = 0; month < 30; month++) {
                    CHECK.due("storm " + seed + " " + month, x.count(12), Check.lot(seed, month) < chance ? 1 : 0);
                    x.months(1);
                }
            }
        }
    }

    private static void undone() {
        SourceDispute x = title(13, RIVER);
        x.dam(1, true);
        x.turn(2, 0);
        x.rule(1);
        x.months(5);
        CHECK.due("undo", x.undo(), true);
        CHECK.due("month", x.count(1), 0);
        CHECK.due("money", x.count(7), 0);
        CHECK.due("rules", x.count(3), 1);
        CHECK.due("undo", x.undo(), true);
        CHECK.due("rules", x.count(3), 0);
        CHECK.due("turned", x.count(14), 4);
        CHECK.due("undo", x.undo(), true);
        CHECK.due("turned", x.count(14), 0);
        CHECK.due("dams", x.count(5), 2);
        CHECK.due("undo", x.undo(), true);
        CHECK.due("dams", x.count(5), 0);
        CHECK.due("undo", x.undo(), false);
        for (int i = 1; i <= 45; i++) {
            x.months(1);
            CHECK.due("to undo", x.count(9), Math.min(40, i));
        }
        for (int i = 1; i <= 40; i++) {
            CHECK.due("undo", x.undo(), true);
            CHECK.due("month", x.count(1), 45 - i);
            CHECK.due("won", x.spot(5, 9), 45 - i);
        }
        CHECK.due("undo", x.undo(), false);
        CHECK.due("month", x.count(1), 5);
    }

    private static void agreed() {
        SourceDispute x = title(14, FORK);
        CHECK.due("agree", x.agree(24), 0);
        x = Check.with(FORK + "one = rain;");
        CHECK.due("agree", x.agree(24), 24);
        CHECK.due("agree", x.agree(1), 1);
        CHECK.due("no such n", x.agree(0), NONE);
        CHECK.due("no such n", x.agree(25), NONE);
        CHECK.due("no such n", x.agree(MIN), NONE);
        x = Check.with(FORK + "one = if month < 3 then rain else 30 - rain;");
        CHECK.due("by the moon", x.agree(5), 3);
        x.months(2);
        CHECK.due("this one the first", x.agree(11), 2);
        CHECK.due("nothing happens", x.count(1), 2);
        x = Check.with(FORK + "one = rain - won * 8;");
        CHECK.due("by wins", x.agree(4), 3);
        x = Check.with(FORK + "one = rain - won * 8; storm 100 50; two = if flow < 50 then flow else 50 - flow;");
        CHECK.due("without storms", x.agree(4), 3);
        CHECK.due("no sources", Check.with("mouth m;").agree(3), 0);
    }

    private static void behindAndMargin() {
        SourceDispute x = title(15, RIVER);
        CHECK.due("behind", x.behind(2, 0), 8);
        CHECK.due("behind", x.behind(3, 0), 23);
        CHECK.due("the winner", x.behind(5, 0), 0);
        CHECK.due("behind", x.behind(5, 1), 6);
        CHECK.due("no source", x.behind(1, 0), NONE);
        CHECK.due("no source", x.behind(0, 0), NONE);
        CHECK.due("no place", x.behind(6, 0), NONE);
        CHECK.due("no law", x.behind(2, 3), NONE);
        CHECK.due("no law", x.behind(2, -1), NONE);
        CHECK.title("promise 16");
        CHECK.due("margin", x.margin(0), 8);
        CHECK.due("margin", x.margin(1), 5);
        CHECK.due("margin", x.margin(2), 6);
        CHECK.due("no law", x.margin(3), NONE);
        CHECK.due("no law", x.margin(-1), NONE);
        CHECK.due("alike", Check.with(FORK).margin(0), 0);
        CHECK.due("one source", Check.with("mouth m; place a m 1 1 1;").margin(0), -2);
        CHECK.due("no source", Check.with("mouth m;").margin(0), -2);
        CHECK.due("no source, no law", Check.with("mouth m;").margin(9), NONE);
    }

    private static void richest() {
        SourceDispute x = title(17, RIVER);
        CHECK.due("nobody", x.richest(0), -2);
        CHECK.due("nobody", x.richest(1), -2);
        CHECK.due("no such what", x.richest(2), NONE);
        CHECK.due("no such what", x.richest(-1), NONE);
        x.months(2);
        CHECK.due("who", x.richest(0), 5);
        CHECK.due("how much", x.richest(1), 14);
        x.rule(2);
        x.months(2);
        CHECK.due("of alike ones", x.richest(0), 2);
        x.months(1);
        CHECK.due("how much", x.richest(1), 21);
        x.turn(4, 2);
        CHECK.due("no source any more", x.richest(0), 2);
        x = Check.with(FORK + "prize 0;");
        x.months(3);
        CHECK.due("for nothing", x.richest(0), -2);
        CHECK.due("won", x.spot(1, 9), 3);
    }

    private static void ranksAndVotes() {
        SourceDispute x = title(18, RIVER);
        int[][] want = {{1, 2, 0}, {1, 0, 2}, {0, 2, 1}};
        int[] sources = {2, 3, 5};
        for (int law = 0; law < 3; law++) {
            for (int i = 0; i < 3; i++) {
                CHECK.due("rank", x.rank(sources[i], law), want[law][i]);
            }
        }
        CHECK.due("no source", x.rank(1, 0), NONE);
        CHECK.due("no place", x.rank(-1, 0), NONE);
        CHECK.due("no law", x.rank(2, 3), NONE);
        SourceDispute fork = Check.with(FORK);
        CHECK.due("alike, lower", fork.rank(1, 0), 0);
        CHECK.due("alike, higher", fork.rank(2, 0), 1);
        CHECK.title("promise 19");
        CHECK.due("which", x.vote(0), 0);
        CHECK.due("how many", x.vote(1), 1);
        CHECK.due("no such what", x.vote(2), NONE);
        CHECK.due("no such what", x.vote(-1), NONE);
        CHECK.due("which", fork.vote(0), 0);
        CHECK.due("how many", fork.vote(1), 1);
        x = Check.with("mouth m; place a m 1 1 1; place b m 1 1 2; place c m 1 1 3; three = 9 - which; one = which;");
        CHECK.due("alike best ones are the first's", x.vote(0), 0);
        CHECK.due("how many", x.vote(1), 2);
        x = Check.with("mouth m; place a m 1 1 1; place b m 1 1 2; place c m 1 1 3; place d m 1 1 3;"
            + "one = if 3 < which then 9 else 4 - which; two = 0; three = if which < 2 then 0 else 2 + 9 / which;");
        // ranks of a: 1 0 3, of b: 2 1 0, of c: 3 2 1, of d: 0 3 2
        CHECK.due("which", x.vote(0), 2);
        CHECK.due("how many", x.vote(1), 2);
        CHECK.due("no sources", Check.with("mouth m;").vote(0), -2);
        CHECK.due("no sources, no such what", Check.with("mouth m;").vote(2), NONE);
    }

    private static void fewestDams() {
        SourceDispute x = title(20, RIVER);
        CHECK.due("as it is", x.dams(16, -1), 0);
        CHECK.due("none of none", x.dams(16, 0), NONE);
        CHECK.due("one", x.dams(15, -1), 1);
        CHECK.due("which", x.dams(15, 0), 1);
        CHECK.due("two", x.dams(0, -1), 2);
        CHECK.due("first", x.dams(0, 0), 1);
        CHECK.due("second", x.dams(0, 1), 4);
        CHECK.due("not so many", x.dams(0, 2), NONE);
        CHECK.due("no such i", x.dams(0, 3), NONE);
        CHECK.due("no such i", x.dams(0, -2), NONE);
        CHECK.due("no such v", x.dams(-1, -1), NONE);
        CHECK.due("no such v", x.dams(10000, -1), NONE);
        CHECK.due("greatest v", x.dams(9999, -1), 0);
        x.dam(1, true);
        CHECK.due("one is dammed", x.dams(0, -1), 1);
        CHECK.due("which", x.dams(0, 0), 4);
        CHECK.due("nothing happens", x.count(5), 2);
        CHECK.due("no mouth", new SourceDispute().dams(0, -1), NONE);
        x = Check.with("mouth m; place a m 1 1 1; place b m 1 2 1; place c m 1 3 1; place d m 1 4 1; place e d 1 9 1;");
        CHECK.due("not by three", x.dams(0, -1), -2);
        CHECK.due("not by three", x.dams(0, 0), -2);
        CHECK.due("not by three", x.dams(0, 2), -2);
        CHECK.due("no such i", x.dams(0, 3), NONE);
        CHECK.due("by three", x.dams(2, -1), 3);
        CHECK.due("first", x.dams(2, 0), 1);
        CHECK.due("second", x.dams(2, 1), 3);
        CHECK.due("third", x.dams(2, 2), 4);
        CHECK.due("one", x.dams(10, -1), 1);
        CHECK.due("the least number", x.dams(10, 0), 4);
        x = Check.with("mouth m; place a m 1 0 1; rains = 5;");
        CHECK.due("rain at the mouth", x.dams(4, -1), -2);
    }

    private static void lossAndPart() {
        SourceDispute x = title(21, RIVER);
        int[] loss = {NONE, 13, 1, 8, 3, 2, NONE};
        int[] part = {NONE, 812, 62, 500, 187, 125, NONE};
        for (int p = 0; p <= 6; p++) {
            CHECK.due("loss " + p, x.loss(p), loss[p]);
        }
        CHECK.due("no place", x.loss(-1), NONE);
        x.dam(1, true);
        CHECK.due("dammed already", x.loss(1), 0);
        CHECK.due("behind a dam", x.loss(2), 0);
        x.undo();
        CHECK.title("promise 29");
        for (int p = 0; p <= 6; p++) {
            CHECK.due("part " + p, x.part(p), part[p]);
        }
        CHECK.due("no place", x.part(MIN), NONE);
        CHECK.due("no flow", Check.with("mouth m; place a m 1 0 1;").part(1), 0);
        CHECK.due("no flow, no place", Check.with("mouth m; place a m 1 0 1;").part(2), NONE);
        x = Check.with("mouth m; place a m 9 3 1; place b a 1 5 1; dries = if length < 9 then 0 else if 4 < flow then flow else 0;"
            + "rains = if which < 1 then 7 else rain;");
        CHECK.due("more with a dam", x.loss(2), -3);
        CHECK.due("rounded towards 0", x.part(2), -428);
    }

    private static void mainWay() {
        SourceDispute x = title(22, RIVER);
        int[] want = {0, 1, 3, NONE, NONE};
        for (int i = 0; i < want.length; i++) {
            CHECK.due("main " + i, x.main(i), want[i]);
        }
        CHECK.due("below 0", x.main(-1), NONE);
        CHECK.due("far up", x.main(MAX), NONE);
        x.dam(1, true);
        CHECK.due("a dam is no matter", x.main(1), 1);
        x = Check.with("mouth m; place a m 1 5 1; place b m 1 5 1; place c b 1 0 1; place d b 1 0 1;");
        CHECK.due("of alike ones", x.main(1), 1);
        x.turn(1, 3);
        CHECK.due("of none with flow", x.main(2), 3);
        CHECK.due("no mouth", new SourceDispute().main(0), NONE);
    }

    private static void driest() {
        SourceDispute x = title(23, FORK + "rains = rain + (month - 3) * (month - 3);");
        CHECK.due("which", x.driest(12, 0), 3);
        CHECK.due("how much", x.driest(12, 1), 30);
        CHECK.due("which", x.driest(2, 0), 1);
        CHECK.due("how much", x.driest(2, 1), 30 + 3 * 4);
        CHECK.due("of alike ones", x.driest(24, 0), 3);
        x.months(4);
        CHECK.due("this one the first", x.driest(6, 0), 0);
        CHECK.due("no such n", x.driest(0, 0), NONE);
        CHECK.due("no such n", x.driest(25, 0), NONE);
        CHECK.due("no such what", x.driest(1, 2), NONE);
        CHECK.due("no such what", x.driest(1, -1), NONE);
        CHECK.due("no mouth", new SourceDispute().driest(1, 0), NONE);
        x = Check.with(FORK + "storm 100 9;");
        CHECK.due("without storms", x.driest(3, 1), 30);
        x = Check.with(FORK + "rains = rain - won;");
        CHECK.due("by wins", x.driest(5, 1), 26);
    }

    private static void turnAndDamFor() {
        SourceDispute x = title(24, RIVER);
        CHECK.due("turn", x.turnFor(2, 0), 104);
        CHECK.due("none", x.turnFor(3, 0), -2);
        CHECK.due("the winner's", x.turnFor(5, 0), 200);
        CHECK.due("no source", x.turnFor(1, 0), NONE);
        CHECK.due("no place", x.turnFor(6, 0), NONE);
        CHECK.due("no law", x.turnFor(2, 3), NONE);
        CHECK.due("nothing happens", x.count(14), 0);
        x = Check.with("mouth m; place a m 9 1 1; place b m 8 1 1; place c m 1 1 1;");
        CHECK.due("of alike ones, into a source", x.turnFor(1, 0), 203);
        CHECK.due("not itself", x.turnFor(3, 0), -2);
        CHECK.due("no mouth", new SourceDispute().turnFor(0, 0), NONE);
        x = title(25, RIVER);
        CHECK.due("the winner's", x.damFor(5, 0), 1);
        CHECK.due("none", x.damFor(2, 0), -2);
        CHECK.due("no source", x.damFor(4, 0), NONE);
        CHECK.due("no place", x.damFor(-1, 0), NONE);
        CHECK.due("no law", x.damFor(2, -1), NONE);
        x.dam(1, true);
        CHECK.due("not dammed", x.damFor(5, 0), 2);
        x = Check.with("mouth m; place a m 1 4 1; place b m 1 3 1; one = if above < 1 then flow else 0;");
        CHECK.due("a dam keeps the flow", x.damFor(2, 0), -2);
    }

    private static void depthAndOrder() {
        SourceDispute x = title(26, RIVER);
        CHECK.due("depth", x.depth(), 3);
        x.turn(1, 5);
        CHECK.due("depth", x.depth(), 5);
        CHECK.due("no sources", Check.with("mouth m;").depth(), 0);
        CHECK.due("one", Check.with("mouth m; place a m 1 1 1;").depth(), 2);
        CHECK.due("no mouth", new SourceDispute().depth(), 0);
        x = title(27, "mouth m; place a m 1 1 1; place b a 1 1 1; place c a 1 1 1; place d m 1 1 1; place e d 1 1 1;"
            + "place f d 1 1 1; place g f 1 1 1; place h f 1 1 1;");
        int[] want = {3, 2, 1, 1, 2, 1, 2, 1, 1, NONE};
        for (int p = 0; p < want.length; p++) {
            CHECK.due("order " + p, x.order(p), want[p]);
        }
        CHECK.due("no place", x.order(-1), NONE);
        CHECK.due("the mouth alone", Check.with("mouth m;").order(0), 1);
        CHECK.due("one above", Check.with("mouth m; place a m 1 1 1;").order(0), 1);
    }

    private static void basins() {
        SourceDispute x = title(28, RIVER);
        int[] bits = {63, 14, 4, 8, 48, 32, NONE};
        int[] rains = {22, 16, 3, 8, 6, 2, NONE};
        for (int p = 0; p <= 6; p++) {
            CHECK.due("which " + p, x.basin(p, 0), bits[p]);
            CHECK.due("how much " + p, x.basin(p, 1), rains[p]);
        }
        CHECK.due("no such what", x.basin(0, 2), NONE);
        CHECK.due("no such what", x.basin(0, -1), NONE);
        CHECK.due("no place", x.basin(-1, 0), NONE);
        x.dam(2, true);
        CHECK.due("a dam is no matter", x.basin(1, 0), 14);
    }

    private static void reigns() {
        SourceDispute x = title(30, RIVER);
        CHECK.due("how many", x.reign(0, 4, 0), 1);
        CHECK.due("who", x.reign(0, 4, 1), 5);
        CHECK.due("no law", x.reign(3, 4, 0), NONE);
        CHECK.due("no law", x.reign(-1, 4, 0), NONE);
        CHECK.due("no such n", x.reign(0, 0, 0), NONE);
        CHECK.due("no such n", x.reign(0, 25, 0), NONE);
        CHECK.due("no such what", x.reign(0, 4, 2), NONE);
        x = Check.with(RIVER + "two = 30 - won * 3 - which;");
        x.rule(1);
        // by law two: b 28 25 22, c 27 24 21, e 25 22 19
        CHECK.due("how many", x.reign(1, 2, 0), 2);
        CHECK.due("of alike ones", x.reign(1, 2, 1), 2);
        CHECK.due("how many", x.reign(1, 24, 0), 3);
        CHECK.due("who", x.reign(1, 4, 1), 2);
        CHECK.due("another law", x.reign(0, 24, 0), 1);
        x = Check.with(FORK + "one = if month < 1 then 9 - which else which; storm 100 7;");
        CHECK.due("who", x.reign(0, 3, 1), 2);
        CHECK.due("how many", x.reign(0, 3, 0), 2);
        CHECK.due("no sources", Check.with("mouth m;").reign(0, 3, 0), 0);
        CHECK.due("no sources", Check.with("mouth m;").reign(0, 3, 1), -2);
        CHECK.due("no sources, no such n", Check.with("mouth m;").reign(0, 0, 1), NONE);
    }

    private static void toursAndParted() {
        SourceDispute x = title(31, RIVER);
        CHECK.due("tour", x.tour(), 2 * 73 - 38);
        CHECK.due("no sources", Check.with("mouth m;").tour(), 0);
        CHECK.due("one", Check.with("mouth m; place a m 9 1 1;").tour(), 9);
        CHECK.due("two", Check.with(FORK).tour(), 15);
        CHECK.due("no mouth", new SourceDispute().tour(), 0);
        x.turn(4, 2);
        CHECK.due("turned", x.tour(), 2 * 73 - 68);
        x = title(32, RIVER);
        CHECK.due("parted", x.parted(), 40);
        CHECK.due("no sources", Check.with("mouth m;").parted(), 0);
        CHECK.due("one", Check.with("mouth m; place a m 9 1 1;").parted(), 9);
        CHECK.due("two", Check.with(FORK).parted(), 5);
        x = Check.with("mouth m; place a m 50 1 1; place b a 1 1 1; place c a 1 1 1; place d a 1 1 1;");
        CHECK.due("a long way to all", x.parted(), 53);
        CHECK.due("no mouth", new SourceDispute().parted(), 0);
    }

    private static void meetings() {
        SourceDispute x = title(33, RIVER);
        CHECK.due("place", x.meet(2, 3, 0), 1);
        CHECK.due("lengths", x.meet(2, 3, 1), 25);
        CHECK.due("at the mouth", x.meet(5, 3, 0), 0);
        CHECK.due("lengths", x.meet(5, 3, 1), 53);
        CHECK.due("one of them", x.meet(1, 2, 0), 1);
        CHECK.due("lengths", x.meet(1, 2, 1), 20);
        CHECK.due("itself", x.meet(2, 2, 0), 2);
        CHECK.due("lengths", x.meet(2, 2, 1), 0);
        CHECK.due("the mouth", x.meet(0, 5, 0), 0);
        CHECK.due("no place", x.meet(6, 0, 0), NONE);
        CHECK.due("no place", x.meet(0, -1, 0), NONE);
        CHECK.due("no such what", x.meet(0, 0, 2), NONE);
        CHECK.due("no such what", x.meet(0, 0, -1), NONE);
        x.dam(2, true);
        CHECK.due("a dam is no matter", x.meet(2, 3, 0), 1);
    }

    private static void whens() {
        SourceDispute x = title(34, RIVER);
        CHECK.due("the winner", x.when(5), 1);
        CHECK.due("never", x.when(2), -2);
        CHECK.due("no source", x.when(1), NONE);
        CHECK.due("no source", x.when(0), NONE);
        CHECK.due("no place", x.when(6), NONE);
        CHECK.due("no place", x.when(MAX), NONE);
        x = Check.with(FORK + "one = if 5 < month then which else 9 - which; storm 100 7;");
        CHECK.due("by the moon", x.when(2), 7);
        CHECK.due("the first", x.when(1), 1);
        x.months(6);
        CHECK.due("by the moon", x.when(1), 7);
        x = Check.with(FORK + "one = if which < 2 then 60 - won else 1;");
        CHECK.due("the sixtieth month is the first's", x.when(2), -2);
        x.months(1);
        CHECK.due("one is too many yet", x.when(2), 60);
        x = Check.with(FORK);
        for (int i = 0; i < 16; i++) {
            x.months(60);
        }
        x.months(38);
        CHECK.due("the last time that is counted", x.when(1), 1);
        x.months(1);
        CHECK.due("999 at most", x.when(1), -2);
    }

    private static void thens() {
        SourceDispute x = title(35, RIVER);
        CHECK.due("how often", x.then(5, 60, 0), 60);
        CHECK.due("money", x.then(5, 60, 1), 420);
        CHECK.due("others", x.then(2, 60, 1), 0);
        CHECK.due("none yet", x.then(5, 0, 0), 0);
        x.months(3);
        CHECK.due("and before", x.then(5, 2, 0), 5);
        CHECK.due("now", x.then(5, 0, 1), 21);
        CHECK.due("no such n", x.then(5, -1, 0), NONE);
        CHECK.due("no such n", x.then(5, 61, 0), NONE);
        CHECK.due("no such what", x.then(5, 1, 2), NONE);
        CHECK.due("no such what", x.then(5, 1, -1), NONE);
        CHECK.due("no source", x.then(4, 1, 0), NONE);
        CHECK.due("no place", x.then(-1, 1, 0), NONE);
        CHECK.due("nothing happens", x.count(1), 3);
        x = Check.with(FORK + "one = if flow < 25 then 9 - which else 9; storm 100 7;");
        CHECK.due("with storms", x.then(2, 4, 0), 4);
        x = title(36, FORK + "rains = rain + month; storm 100 50;");
        CHECK.due("flow", x.flowIn(0), 30);
        CHECK.due("flow", x.flowIn(11), 63);
        CHECK.due("flow", x.flowIn(60), 30);
        CHECK.due("no such n", x.flowIn(61), NONE);
        CHECK.due("no such n", x.flowIn(-1), NONE);
        CHECK.due("no mouth", new SourceDispute().flowIn(0), NONE);
    }

    private static void years() {
        SourceDispute x = title(37, RIVER);
        CHECK.due("the winner", x.year(5, 1, 20), 20);
        CHECK.due("others", x.year(2, 60, 20), 0);
        CHECK.due("none yet", x.year(5, 0, 3), 0);
        x.months(1);
        CHECK.due("before", x.year(5, 0, 3), 3);
        CHECK.due("no such n", x.year(5, -1, 1), NONE);
        CHECK.due("no such n", x.year(5, 61, 1), NONE);
        CHECK.due("no such s", x.year(5, 1, 0), NONE);
        CHECK.due("no such s", x.year(5, 1, 21), NONE);
        CHECK.due("no source", x.year(1, 1, 1), NONE);
        CHECK.due("no place", x.year(6, 1, 1), NONE);
        String wet = FORK + "one = if flow < 25 then 9 - which else 9; storm 50 7; seed ";
        for (int seed : new int[] {0, 300, 9990}) {
            int first = 0;
            int second = 0;
            for (int i = 0; i < 10; i++) {
                x = Check.with(wet + Math.min(9999, seed + i) + ";");
                x.months(9);
                first += x.spot(1, 9) > x.spot(2, 9) ? 1 : 0;
                second += x.spot(2, 9) > x.spot(1, 9) ? 1 : 0;
            }
            x = Check.with(wet + seed + ";");
            CHECK.due("first from " + seed, x.year(1, 9, 10), first);
            CHECK.due("second from " + seed, x.year(2, 9, 10), second);
        }
        CHECK.due("alone", Check.with("mouth m; place a m 1 1 1;").year(1, 0, 4), 4);
    }

    private static void tellings() {
        SourceDispute x = title(38, RIVER);
        CHECK.due("tell", x.tell(1, 10, 30, true), 0);
        CHECK.due("tell", x.tell(4, 0, 9999, false), 1);
        CHECK.due("the mouth", x.tell(0, 0, 30, true), 2);
        CHECK.due("alike", x.tell(5, 9999, 9999, false), 3);
        CHECK.due("e below d", x.tell(1, 5, 4, true), NONE);
        CHECK.due("no such d", x.tell(1, -1, 4, true), NONE);
        CHECK.due("no such e", x.tell(1, 0, 10000, true), NONE);
        CHECK.due("no place", x.tell(6, 0, 4, true), NONE);
        CHECK.due("no place", x.tell(-1, 0, 4, true), NONE);
        CHECK.due("told", x.count(10), 4);
        CHECK.title("promise 40");
        CHECK.due("all", x.dyed(0, 1), 44);
        CHECK.due("how many", x.dyed(0, 0), 3);
        CHECK.due("20 behind a", x.dyed(1, 1), 4);
        CHECK.due("not by d", x.dyed(2, 1), 4);
        CHECK.due("30 behind the mouth", x.dyed(3, 1), 4);
        CHECK.due("all told", x.dyed(4, 0), 1);
        CHECK.due("no such k", x.dyed(5, 0), NONE);
        CHECK.due("no such k", x.dyed(-1, 0), NONE);
        CHECK.due("no such what", x.dyed(0, 2), NONE);
        CHECK.due("no such what", x.dyed(0, -1), NONE);
        x.turn(2, 0);
        CHECK.due("turned", x.dyed(1, 1), 0);
        x.undo();
        x.dam(2, true);
        CHECK.due("a dam is no matter", x.dyed(1, 1), 4);
        CHECK.title("promise 38");
        for (int i = 4; i < 20; i++) {
            CHECK.due("tell", x.tell(0, 0, 0, false), i);
        }
        CHECK.due("20 are there", x.tell(0, 0, 0, false), NONE);
        CHECK.due("told", x.count(10), 20);
        CHECK.title("promise 39");
        CHECK.due("forget", x.forget(), 20);
        CHECK.due("forget", x.forget(), 0);
        CHECK.due("k", x.dyed(1, 0), NONE);
        CHECK.title("promise 40");
        x.tell(2, 0, 0, true);
        CHECK.due("by itself", x.dyed(1, 1), 4);
        x.tell(1, 20, 20, true);
        CHECK.due("just so far", x.dyed(2, 1), 4);
        x.tell(1, 21, 40, false);
        CHECK.due("not so far", x.dyed(3, 1), 4);
        x.tell(1, 0, 19, true);
        CHECK.due("nearer", x.dyed(4, 1), 0);
    }

    private static void watches() {
        SourceDispute x = title(41, RIVER);
        CHECK.due("watch", x.watch(0), 1);
        x.tell(1, 0, 99, false);
        CHECK.due("one left", x.watch(1), 0);
        x.tell(5, 0, 99, false);
        CHECK.due("none left", x.watch(2), -2);
        CHECK.due("no such k", x.watch(3), NONE);
        CHECK.due("no such k", x.watch(-1), NONE);
        CHECK.due("no sources", Check.with("mouth m;").watch(0), -2);
        CHECK.due("no sources, no such k", Check.with("mouth m;").watch(1), NONE);
        x = Check.with("mouth m; place a m 1 1 1; place b m 1 1 1; place c b 1 1 1; place d b 1 1 1; place e m 1 1 1;");
        CHECK.due("two of four", x.watch(0), 2);
        x.tell(5, 0, 0, true);
        CHECK.due("lengths are no matter", x.watch(1), 0);
    }

    private static void heldAndRestored() {
        SourceDispute x = title(42, RIVER);
        CHECK.due("no slot", x.hold(3), false);
        CHECK.due("no slot", x.hold(-1), false);
        x.dam(1, true);
        x.turn(5, 0);
        x.rule(1);
        x.months(2);
        x.tell(1, 0, 1, true);
        CHECK.due("hold", x.hold(2), true);
        CHECK.due("to undo", x.count(9), 4);
        CHECK.title("promise 43");
        CHECK.due("nothing held", x.restore(0), false);
        CHECK.due("no slot", x.restore(3), false);
        CHECK.due("no slot", x.restore(MIN), false);
        CHECK.due("to undo", x.count(9), 4);
        x.dam(1, false);
        x.turn(5, 4);
        x.rule(2);
        x.months(3);
        x.tell(1, 0, 2, true);
        x.feed(0, 0, 0, 0, 0);
        CHECK.due("restore", x.restore(2), true);
        int[][] want = {{1, 2}, {3, 1}, {5, 2}, {7, 14}, {8, 20}, {9, 0}, {10, 2}, {11, 1}, {14, 32}};
        for (int[] w : want) {
            CHECK.due("count " + w[0], x.count(w[0]), w[1]);
        }
        CHECK.due("won", x.spot(3, 9), 2);
        CHECK.due("undo", x.undo(), false);
        x.months(1);
        CHECK.due("stays there", x.restore(2), true);
        CHECK.due("month", x.count(1), 2);
        CHECK.title("promise 42");
        x.months(5);
        CHECK.due("hold over", x.hold(2), true);
        CHECK.due("hold another", x.hold(0), true);
        CHECK.due("slots", x.count(11), 2);
        x.months(5);
        x.restore(2);
        CHECK.due("month", x.count(1), 7);
    }

    private static void counts() {
        SourceDispute x = title(44, RIVER + "storm 100 1;");
        x.months(14);
        x.dam(3, true);
        x.turn(2, 4);
        x.rule(1);
        x.tell(0, 0, 0, true);
        x.hold(1);
        x.feed(0, 0, 0, 0, 0);
        int[] want = {6, 14, 2, 1, 44, 8, 5 - 1 + 4 + 2 + (3 - 2) - 3, 98, 20, 4, 1, 1, 1, 73, 4, 22, 50, NONE};
        for (int what = 0; what < want.length; what++) {
            CHECK.due("count " + what, x.count(what), want[what]);
        }
        CHECK.due("no such what", x.count(-1), NONE);
        CHECK.due("no such what", x.count(MIN), NONE);
        CHECK.due("no such what", x.count(MAX), NONE);
    }

    /** The mouth alone, and one source alone. */
    private static void smallRivers() {
        SourceDispute x = title(7, "mouth m;");
        CHECK.due("the mouth is no source", x.claim(0, 0), NONE);
        CHECK.due("nor behind", x.behind(0, 0), NONE);
        CHECK.due("nor ranked", x.rank(0, 0), NONE);
        CHECK.due("nor when", x.when(0), NONE);
        CHECK.due("nor then", x.then(0, 1, 0), NONE);
        CHECK.due("nor year", x.year(0, 1, 1), NONE);
        CHECK.due("nor turn", x.turnFor(0, 0), NONE);
        CHECK.due("nor dam", x.damFor(0, 0), NONE);
        CHECK.due("nor spot", x.spot(0, 8), 0);
        CHECK.due("dams", x.dams(0, -1), 0);
        CHECK.due("main", x.main(0), 0);
        CHECK.due("driest", x.driest(1, 1), 0);
        CHECK.due("flowIn", x.flowIn(1), 0);
        CHECK.due("months", x.months(2), 2);
        CHECK.due("money", x.count(7), 0);
        x = Check.with("mouth m; rains = 6;");
        CHECK.due("rain at the mouth", x.basin(0, 1), 6);
        CHECK.due("not to be dammed", x.dams(5, -1), -2);
        CHECK.due("not to be dammed", x.dams(6, -1), 0);
        x = Check.with("mouth m; place a m 4 5 6;");
        CHECK.due("agree", x.agree(2), 2);
        CHECK.due("who", x.reign(0, 1, 1), 1);
        CHECK.due("how many", x.reign(0, 1, 0), 1);
        CHECK.due("year", x.year(1, 1, 1), 1);
        CHECK.due("dyed", x.dyed(0, 1), 2);
        x.months(1);
        CHECK.due("richest", x.richest(0), 1);
        CHECK.due("turn", x.turnFor(1, 0), -2);
        CHECK.due("dam", x.damFor(1, 0), 1);
    }

    private static void leastNumbers() {
        SourceDispute x = title(23, FORK + "one = if month < 1 then which else 9 - which;");
        CHECK.due("one month", x.driest(1, 0), 0);
        CHECK.due("one month", x.reign(0, 1, 0), 1);
        CHECK.due("just so many months", x.reign(0, 2, 0), 2);
        CHECK.due("just so many months", x.reign(0, 2, 1), 1);
        x = title(14, FORK + "one = rain; two = 0 - rain;");
        CHECK.due("two of three", x.agree(3), 0);
        x = Check.with(FORK + "one = 0; three = rain;");
        CHECK.due("two others of three", x.agree(3), 0);
        x = title(43, FORK);
        CHECK.due("hold", x.hold(0), true);
        x.months(1);
        CHECK.due("restore", x.restore(0), true);
        CHECK.due("month", x.count(1), 0);
        x = title(37, FORK);
        CHECK.due("one seed", x.year(1, 1, 1), 1);
        CHECK.due("one seed", x.year(2, 1, 1), 0);
    }

    /** No storm, a prize of 1 and the seed 0, if a text does not tell them. */
    private static void untold() {
        SourceDispute x = title(4, "storm 30 9; seed 77; prize 5;");
        x = Check.with(FORK);
        SourceDispute zero = Check.with("seed 0; storm 50 5;");
        SourceDispute none = Check.with("storm 50 5;");
        for (int i = 0; i < 200; i++) {
            CHECK.due("no storm", x.count(12), 0);
            CHECK.due("seed 0", none.count(12), zero.count(12));
            x.months(1);
            zero.months(1);
            none.months(1);
        }
        CHECK.due("prize 1", x.count(7), 200);
        x = Check.with(FORK + "two = if flow < 11 then which else 0; one = flow; storm 0 50;");
        CHECK.due("no storm, no more rain", x.then(2, 3, 0), 3);
        x = Check.with(FORK + "one = if flow < 11 then 9 else flow / 4;");
        CHECK.due("nothing more", x.then(1, 3, 0), 3);
    }
}
