/** The edges of months, laws, rains and flows: each sentence of the document that names one is a title here. */
public final class WaterEdgeTest {
    private static final Check CHECK = new Check();
    private static final String FORK = "mouth m; place s m 5 10 3; place t m 5 20 4;";
    /** 2 to the 31, which wraps to the least int. */
    private static final String LEAST = "2048*1024*1024";
    private static final String MOST = "(2048*1024*1024-1)";

    public static void main(String[] args) {
        moon();
        firstThatHolds();
        wraps();
        roundedTowards0();
        dividedBy0();
        vars();
        varsOfTheMouth();
        above();
        flowVars();
        rainsHeld();
        stormsMore();
        lots();
        driesHeld();
        dammedOnes();
        claimsHeld();
        firstOfAlikeOnes();
        wonAtMost();
        noSources();
        CHECK.finish();
    }

    /** What a law tells of a place with rain 17, tale 19, length 5, far 12, the second one. */
    private static void law(String law, int want) {
        SourceDispute x = Check.with("mouth m; place a m 7 11 13; place b a 5 17 19; one = " + law + ";");
        CHECK.due("one = " + law, x.claim(2, 0), want);
    }

    private static void holds(String left, String right, boolean want) {
        law("if " + left + " < " + right + " then 1 else 2", want ? 1 : 2);
    }

    /** Whether a law's numbers are just this one, below 0 too. */
    private static void just(String sum, String want) {
        holds(sum, want, false);
        holds(want, sum, false);
    }

    /** An int by INTS of four digits. */
    private static String spelled(int value) {
        int most = Math.abs(value);
        String digits = "((" + most / 9999 / 9999 + " * 9999 + " + most / 9999 % 9999 + ") * 9999 + " + most % 9999 + ")";
        return value < 0 ? "0 - " + digits : digits;
    }

    private static void moon() {
        CHECK.title("MONTHS are counted on; the moon: their rest by 12");
        SourceDispute x = Check.with("mouth m; place a m 1 1 1; one = month;");
        int[] months = {0, 1, 10, 11, 12, 13, 23, 24, 25, 59, 60, 120, 131, 132};
        for (int month : months) {
            x.months(month - x.count(1));
            CHECK.due("months", x.count(1), month);
            CHECK.due("the moon", x.count(2), month % 12);
            CHECK.due("month in a law", x.claim(1, 0), month % 12);
        }
    }

    private static void firstThatHolds() {
        CHECK.title("the first if that holds (one less than the other), else the last one");
        holds("1", "2", true);
        holds("2", "2", false);
        holds("3", "2", false);
        holds("0 - 1", "0", true);
        holds("0", "0 - 1", false);
        holds("0 - 2", "0 - 1", true);
        holds(LEAST, MOST, true);
        holds(MOST, LEAST, false);
        holds(LEAST, "0", true);
        holds(LEAST, LEAST, false);
        holds(MOST, MOST, false);
        law("if 2 < 2 then 1 else if 2 < 2 then 2 else 3", 3);
        law("if 2 < 2 then 1 else if 1 < 2 then 2 else if 1 < 2 then 3 else 4", 2);
        law("if 1 < 2 then 1 else if 1 < 2 then 2 else 3", 1);
    }

    private static void wraps() {
        CHECK.title("ints of 32 bits that wrap");
        holds(LEAST, "0 - 9999", true);
        holds(MOST, "9999", false);
        just(MOST + " + 1", LEAST);
        just(LEAST + " - 1", MOST);
        just("0 - " + LEAST, LEAST);
        just(MOST + " + " + MOST, "0 - 2");
        just(LEAST + " + " + LEAST, "0");
        just(LEAST + " * 2", "0");
        just("4096 * 1024 * 1024", "0");
        just(MOST + " * " + MOST, "1");
        just(MOST + " * 2", "0 - 2");
        just("9999 * 9999 * 9999", spelled(9999 * 9999 * 9999));
        just("9999 * 9999 * 22", spelled(9999 * 9999 * 22));
        just("0 - 9999 * 9999 * 22", spelled(-9999 * 9999 * 22));
        just("9999 * 9999 * 9999 / 9999", spelled(9999 * 9999 * 9999 / 9999));
        just(LEAST + " / (0 - 1)", LEAST);
        just("(" + LEAST + " + 1) / (0 - 1)", MOST);
        CHECK.title("ints of 32 bits that wrap: of RAINS, of DRIES");
        SourceDispute x = Check.with(FORK + "rains = " + MOST + " + 1; dries = 0 - " + LEAST + ";");
        CHECK.due("rains", x.spot(1, 11), 0);
        CHECK.due("dries", x.spot(1, 12), 0);
        x = Check.with(FORK + "rains = " + LEAST + " - 1; dries = " + MOST + ";");
        CHECK.due("rains", x.spot(1, 11), 999);
        CHECK.due("dries", x.spot(1, 12), 999);
        CHECK.due("nothing is left but at the mouth", x.count(6), 999);
    }

    private static void roundedTowards0() {
        CHECK.title("/ rounded towards 0");
        just("7 / 2", "3");
        just("(0 - 7) / 2", "0 - 3");
        just("7 / (0 - 2)", "0 - 3");
        just("(0 - 7) / (0 - 2)", "3");
        just("1 / 2", "0");
        just("(0 - 1) / 2", "0");
        just("(0 - 1) / 9999", "0");
        just("9998 / 9999", "0");
        just("9999 / 9999", "1");
        just("0 / 5", "0");
        just(LEAST + " / 2 / 1024 / 1024", "0 - 1024");
    }

    private static void dividedBy0() {
        CHECK.title("a LAW in which something that is looked at is divided by 0 is 0");
        law("7 / 0", 0);
        law("0 / 0", 0);
        law("5 + 7 / 0", 0);
        law("7 / 0 + 5", 0);
        law("7 / 0 * 0 + 5", 0);
        law("0 * (7 / 0) + 5", 0);
        law("7 / (far - 12) + 5", 0);
        law("7 / (4096 * 1024 * 1024) + 5", 0);
        law("7 / (1 / 2) + 5", 0);
        law("7 / (far - 11) + 5", 12);
        law("if 1 / 0 < 2 then 3 else 4", 0);
        law("if 1 < 2 / 0 then 3 else 4", 0);
        law("if 1 < 2 then 3 else 4 / 0", 3);
        law("if 1 < 2 then 3 / 0 else 4", 0);
        law("if 2 < 1 then 3 / 0 else 4", 4);
        law("if 2 < 1 then 3 else 4 / 0", 0);
        law("if 1 < 2 then 3 else if 1 / 0 < 2 then 4 else 5", 3);
        law("if 2 < 1 then 3 else if 1 / 0 < 2 then 4 else 5", 0);
        law("if 2 < 1 then 3 / 0 else if 1 < 2 then 4 else 5 / 0", 4);
        SourceDispute x = Check.with("mouth m; place a m 7 50 13; rains = rain + 5 / month; dries = 9 + flow / won; three = 4 / 0;");
        CHECK.due("rains", x.spot(1, 11), 0);
        CHECK.due("dries", x.spot(1, 12), 0);
        CHECK.due("three", x.claim(1, 2), 0);
        x.months(1);
        CHECK.due("rains", x.spot(1, 11), 55);
        CHECK.due("dries", x.spot(1, 12), 55);
        x.months(11);
        CHECK.due("rains", x.spot(1, 11), 0);
    }

    private static void vars() {
        CHECK.title("Of a PLACE: far, won, which, at their most");
        SourceDispute x = Check.with("mouth m; place a m 99 1 1; place b a 99 1 1; place c b 99 1 1; place d c 99 1 1;"
            + "place e d 99 1 1; place f e 99 1 1; place g f 99 1 1; place h g 99 1 1; place i h 99 1 1; place j i 99 1 1;"
            + "place k j 99 1 1; one = far * 10 + which;");
        CHECK.due("the farthest", x.claim(11, 0), 10890 + 11);
        x.turn(11, 0);
        CHECK.due("turned, its length stays", x.claim(11, 0), 990 + 11);
        x.months(7);
        CHECK.due("how often it won", x.spot(10, 9), 7);
        x = Check.with(FORK + "one = 50 - won * which; two = won;");
        x.months(3);
        CHECK.due("won of each", x.claim(1, 1), 2);
        CHECK.due("won of each", x.claim(2, 1), 1);
    }

    private static void varsOfTheMouth() {
        CHECK.title("MOUTH: length 0, which 0, no RAIN, no TALE, nobody wins there");
        for (String var : new String[] {"rain", "far", "tale", "month", "flow", "length", "won", "which"}) {
            SourceDispute x = Check.with(FORK + "rains = 5 + " + var + ";");
            CHECK.due(var, x.spot(0, 11), 5);
            x = Check.with("mouth m; rains = 5 + " + var + ";");
            CHECK.due(var + " of the mouth alone", x.spot(0, 11), 5);
        }
        SourceDispute x = Check.with(FORK + "rains = 5 + above;");
        CHECK.due("above", x.spot(0, 11), 7);
        CHECK.due("above of the mouth alone", Check.with("mouth m; rains = 5 + above;").spot(0, 11), 5);
    }

    private static void above() {
        CHECK.title("above: how many PLACES run into it, by any way");
        SourceDispute x = Check.with("mouth m; place a m 1 0 0; place b a 1 0 0; place c b 1 0 0; place d a 1 0 0; rains = above;");
        int[] want = {4, 3, 1, 0, 0};
        for (int p = 0; p < want.length; p++) {
            CHECK.due("above", x.spot(p, 7), want[p]);
            CHECK.due("in a law", x.spot(p, 11), want[p]);
        }
        x.dam(3, true);
        CHECK.due("a dam is no matter", x.spot(2, 7), 1);
        x.turn(2, 4);
        int[] turned = {4, 3, 1, 0, 2};
        for (int p = 0; p < turned.length; p++) {
            CHECK.due("turned", x.spot(p, 11), turned[p]);
        }
        x = Check.with("mouth m; place a m 1 50 0; place b a 1 0 0; place c b 1 0 0; dries = above * 3;");
        CHECK.due("dries", x.count(6), 44);
    }

    private static void flowVars() {
        CHECK.title("flow: what flows by (for RAINS: 0; for DRIES: what comes to the stretch from it)");
        SourceDispute x = Check.with(FORK + "rains = rain + flow * 9; dries = flow - 3; two = flow * 2;");
        CHECK.due("for rains", x.spot(2, 11), 20);
        CHECK.due("for dries", x.spot(2, 12), 17);
        CHECK.due("for a law", x.claim(2, 1), 40);
        CHECK.due("at the mouth", x.count(6), 6);
    }

    private static void rains(String law, int want) {
        CHECK.due("rains = " + law, Check.with(FORK + "rains = " + law + ";").spot(1, 11), want);
    }

    private static void rainsHeld() {
        CHECK.title("RAINS: what comes down there, held to 0 .. 999");
        rains("0", 0);
        rains("0 - 1", 0);
        rains("0 - 9999 * 9999", 0);
        rains("1", 1);
        rains("998", 998);
        rains("999", 999);
        rains("1000", 999);
        rains("9999 * 9999", 999);
        SourceDispute x = Check.with(FORK + "rains = 1000;");
        CHECK.due("the mouth's flow", x.count(6), 2997);
        CHECK.due("the mouth's basin", x.basin(0, 1), 2997);
        x = Check.with("mouth m; rains = 0 - 1;");
        CHECK.due("the mouth's flow", x.count(6), 0);
    }

    /** The first wins if its flow in a month's storm is so much, as the other one's claim is. */
    private static void stormFlow(String rains, String storm, int flow) {
        String text = FORK + "storm " + storm + "; rains = " + rains + "; one = if which < 2 then flow else ";
        CHECK.due("no less in " + text, Check.with(text + flow + ";").then(1, 1, 0), 1);
        CHECK.due("no more in " + text, Check.with(text + (flow + 1) + ";").then(1, 1, 0), 0);
    }

    private static void stormsMore() {
        CHECK.title("in a STORM as much more as that tells");
        stormFlow("rain", "100 99", 109);
        stormFlow("rain", "100 1", 11);
        stormFlow("rain", "100 0", 10);
        stormFlow("rain", "0 99", 10);
        stormFlow("0 - 50", "100 99", 99);
        stormFlow("5000", "100 99", 1098);
        stormFlow("7 / 0", "100 99", 99);
        CHECK.title("that are asked for are without a STORM, those of a MONTH that goes by are with it");
        SourceDispute x = Check.with(FORK + "storm 100 50; one = if flow < 21 then which else 9 - which; two = flow;");
        CHECK.due("rains", x.spot(1, 11), 10);
        CHECK.due("flow", x.spot(1, 5), 10);
        CHECK.due("the mouth's", x.count(6), 30);
        CHECK.due("claim", x.claim(1, 1), 10);
        CHECK.due("winner", x.winner(0), 2);
        CHECK.due("basin", x.basin(0, 1), 30);
        x.months(1);
        CHECK.due("the month's winner", x.spot(1, 9), 1);
    }

    private static void lots() {
        CHECK.title("LOT 100 of the SEED and 4 * the month, counted on, is less than how many");
        for (int seed : new int[] {0, 1, 146, 147, 148, 5000, 9998, 9999}) {
            int first = Check.lot(seed, 0);
            CHECK.due("just as many of " + seed, Check.with("storm " + first + " 9; seed " + seed + ";").count(12), 0);
            CHECK.due("one more", Check.with("storm " + (first + 1) + " 9; seed " + seed + ";").count(12), 1);
            SourceDispute x = Check.with("storm 50 9; seed " + seed + ";");
            for (int month : new int[] {0, 1, 2, 11, 12, 13, 14, 24, 84, 144, 999, 1000}) {
                for (int behind = x.count(1); behind < month; behind = x.count(1)) {
                    x.months(Math.min(60, month - behind));
                }
                CHECK.due("month " + month, x.count(12), Check.lot(seed, month) < 50 ? 1 : 0);
            }
        }
    }

    private static void dries(String law, int want) {
        SourceDispute x = Check.with("mouth m; place a m 5 20 3; dries = " + law + ";");
        CHECK.due("dries = " + law, x.spot(1, 12), want);
        CHECK.due("what is left with dries = " + law, x.count(6), 20 - want);
    }

    private static void driesHeld() {
        CHECK.title("less what DRIES tells of it (held to 0 .. what there is)");
        dries("0", 0);
        dries("0 - 1", 0);
        dries("0 - 9999 * 9999", 0);
        dries("1", 1);
        dries("19", 19);
        dries("20", 20);
        dries("21", 20);
        dries("flow", 20);
        dries("flow + 1", 20);
        dries("9999 * 9999", 20);
        SourceDispute x = Check.with("mouth m; place a m 5 0 3; dries = 7;");
        CHECK.due("of nothing", x.spot(1, 12), 0);
        CHECK.due("nothing is left", x.count(6), 0);
    }

    private static void dammedOnes() {
        CHECK.title("a PLACE that is DAMMED has its FLOW, but nothing of it goes on");
        SourceDispute x = Check.with("mouth m; place a m 5 4 3; place b a 5 20 3; place c a 5 30 3; dries = 1;");
        CHECK.due("flow", x.count(6), 51);
        x.dam(2, true);
        CHECK.due("its flow", x.spot(2, 5), 20);
        CHECK.due("the next one's", x.spot(1, 5), 33);
        CHECK.due("the mouth's", x.count(6), 32);
        x.dam(1, true);
        CHECK.due("its flow", x.spot(1, 5), 33);
        CHECK.due("the mouth's", x.count(6), 0);
        x.dam(3, true);
        CHECK.due("its flow", x.spot(1, 5), 4);
        x.dam(1, false);
        CHECK.due("the mouth's", x.count(6), 3);
        CHECK.due("it claims its flow", x.claim(2, 1), 20);
    }

    private static void claims(String claim, int want) {
        SourceDispute x = Check.with(FORK + "one = " + claim + "; two = " + claim + "; three = " + claim + ";");
        for (int law = 0; law < 3; law++) {
            CHECK.due("claim " + claim + " by law " + law, x.claim(1, law), want);
        }
    }

    private static void claimsHeld() {
        CHECK.title("CLAIM .. held to 0 .. 99,999");
        claims("0", 0);
        claims("0 - 1", 0);
        claims(LEAST, 0);
        claims("9999 * 10 + 8", 99998);
        claims("9999 * 10 + 9", 99999);
        claims("9999 * 10 + 10", 99999);
        claims(MOST, 99999);
        SourceDispute x = Check.with(FORK + "one = 9999 * 9999 + which; two = 0 - 1 - which;");
        CHECK.due("alike when held", x.winner(0), 1);
        CHECK.due("none behind", x.behind(2, 0), 0);
        CHECK.due("no margin", x.margin(0), 0);
        CHECK.due("ranks", x.rank(2, 0), 1);
        CHECK.due("alike when held", x.winner(1), 1);
        CHECK.due("none behind", x.behind(2, 1), 0);
        x = Check.with(FORK + "one = if which < 2 then 0 - 9999 else 9999 * 9999;");
        CHECK.due("the most that one can be behind", x.behind(1, 0), 99999);
        CHECK.due("the greatest margin", x.margin(0), 99999);
    }

    private static void firstOfAlikeOnes() {
        CHECK.title("WINNER: the SOURCE with the greatest CLAIM, of alike ones the first");
        SourceDispute x = Check.with("mouth m; place a m 1 1 9; place b a 1 5 1; place c a 1 5 7; place d m 1 5 7; one = 0;");
        CHECK.due("all 0", x.winner(0), 2);
        CHECK.due("all alike", x.winner(1), 2);
        CHECK.due("two alike, the mouth and a are none", x.winner(2), 3);
        x.months(1);
        CHECK.due("a claim of 0 wins", x.spot(2, 9), 1);
    }

    private static void wonAtMost() {
        CHECK.title("gets the PRIZE, and has won once more (999 at most)");
        SourceDispute x = Check.with(FORK + "prize 99; two = won;");
        for (int i = 0; i < 16; i++) {
            x.months(60);
        }
        x.months(38);
        CHECK.due("won", x.spot(1, 9), 998);
        CHECK.due("ahead", x.then(1, 1, 0), 999);
        CHECK.due("ahead", x.then(1, 2, 0), 999);
        CHECK.due("ahead", x.then(1, 2, 1), 1000 * 99);
        x.months(1);
        CHECK.due("won", x.spot(1, 9), 999);
        x.months(1);
        CHECK.due("999 at most", x.spot(1, 9), 999);
        CHECK.due("in a law", x.claim(1, 1), 999);
        CHECK.due("the prize goes on", x.spot(1, 10), 1000 * 99);
        x.months(60);
        CHECK.due("999 at most", x.spot(1, 9), 999);
        CHECK.due("the prize goes on", x.spot(1, 10), 1060 * 99);
        CHECK.due("undo", x.undo() && x.undo() && x.undo(), true);
        CHECK.due("as it was", x.spot(1, 9), 998);
    }

    private static void noSources() {
        CHECK.title("a MONTH without SOURCES");
        SourceDispute x = Check.with("mouth m; storm 100 9; rains = month;");
        CHECK.due("goes by", x.months(13), 13);
        CHECK.due("nobody gets a prize", x.count(7), 0);
        CHECK.due("rain at the mouth", x.count(6), 1);
        x = new SourceDispute();
        CHECK.due("goes by without a mouth", x.months(60), 60);
        CHECK.due("the moon", x.count(2), 0);
        CHECK.due("undo", x.undo(), true);
        CHECK.due("month", x.count(1), 0);
    }
}
