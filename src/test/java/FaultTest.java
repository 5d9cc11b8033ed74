/** Texts, each with the fault and the byte that are due. */
public final class FaultTest {
    private static final Check CHECK = new Check();
    private static final int SYNTAX = 1;
    private static final int ROOM = 2;
    private static final int TWICE = 3;
    private static final int NAME = 4;
    private static final int WRONG = 5;

    public static void main(String[] args) {
        good();
        syntax();
        room();
        meaning();
        precedence();
        CHECK.finish();
    }

    private static void due(String text, int fault, int place) {
        SourceDispute x = new SourceDispute();
        Check.feed(x, text);
        CHECK.due("count(8) of " + text, x.count(8), text.length());
        CHECK.due("read() of " + text, x.read(), fault);
        CHECK.due("place() of " + text, x.place(), place);
        CHECK.due("count(8) behind " + text, x.count(8), 0);
    }

    private static void good(String text) {
        due(text, 0, -1);
    }

    private static void good() {
        CHECK.title("good");
        good("");
        good(" \t\n\r");
        good("mouth m;");
        good("mouth\tabcdefgh\n;\r");
        good("mouth m;place a m 1 0 0;place b a 99 99 99;");
        good("mouth m;place a m1 2 3;");
        good("storm 0 0;storm 100 99;prize 0;prize 99;seed 0;seed 9999;seed 0000;");
        good("rains=0;dries=9999;one=rain;two=far+tale-month*flow/length;three=won+which+above;");
        good("one=((((((1))))))+((((((2))))));");
        good("one=if 1<2then 3else if 4<5 then 6 else if 7 < 8 then 9 else if far < 1 then 2 else 3;");
        good("one=1;one=2;one=3;rains=1;rains=2;");
        good("mouth mouths;place places mouths 01 0002 3;");
        good("rains=1/0;");
        good("prize 3;mouth m;seed 4;");
    }

    private static void syntax() {
        CHECK.title("syntax");
        due("m", SYNTAX, 0);
        due("mouth", SYNTAX, 5);
        due("mouth  ", SYNTAX, 7);
        due("mouth m", SYNTAX, 7);
        due("mouth 3;", SYNTAX, 6);
        due("mouth rain;", SYNTAX, 6);
        due("mouth if;", SYNTAX, 6);
        due("mouth abcdefghi;", SYNTAX, 6);
        due("mouth M;", SYNTAX, 6);
        due("mouth m;;", SYNTAX, 8);
        due("mouth m;\u0000", SYNTAX, 8);
        due("mouth m;\u00e9", SYNTAX, 8);
        due("mouth m;.", SYNTAX, 8);
        due("mouth m;\u000b", SYNTAX, 8);
        due("mouth m; mouthn;", SYNTAX, 9);
        due("mouth m; place a m 1 2;", SYNTAX, 22);
        due("mouth m; place a m 1 2 3 4;", SYNTAX, 25);
        due("mouth m; place a m 12345 2 3;", SYNTAX, 19);
        due("mouth m; place a m -1 2 3;", SYNTAX, 19);
        due("storm 3;", SYNTAX, 7);
        due("prize -1;", SYNTAX, 6);
        due("one;", SYNTAX, 3);
        due("one = ;", SYNTAX, 6);
        due("one = m;", SYNTAX, 6);
        due("one = 1 2;", SYNTAX, 8);
        due("one = -1;", SYNTAX, 6);
        due("one = 1 + ;", SYNTAX, 10);
        due("one = (1;", SYNTAX, 8);
        due("one = 1);", SYNTAX, 7);
        due("one = 1 < 2;", SYNTAX, 8);
        due("one = ();", SYNTAX, 7);
        due("one = if 1 then 2 else 3;", SYNTAX, 11);
        due("one = if 1 < 2 < 3 then 2 else 3;", SYNTAX, 15);
        due("one = if 1 < 2 then if 1 < 2 then 3 else 4 else 5;", SYNTAX, 20);
        due("one = if 1 < 2 then 3;", SYNTAX, 21);
        due("one = (if 1 < 2 then 3 else 4);", SYNTAX, 7);
        due("one = 1 + if 1 < 2 then 3 else 4;", SYNTAX, 10);
        due("one = if 1 < 2 then 3 else", SYNTAX, 26);
        due("four = 1;", SYNTAX, 0);
    }

    private static String times(int n, String words) {
        return words.repeat(n);
    }

    private static void room() {
        CHECK.title("room");
        due("mouth m; mouth n;", ROOM, 9);
        due("mouth m; mouth", ROOM, 9);
        due("mouth m; mouth m;", ROOM, 9);
        StringBuilder eleven = new StringBuilder("mouth m;");
        for (char c = 'a'; c < 'a' + 11; c++) {
            eleven.append("place p").append(c).append(" m 1 1 1;");
        }
        good(eleven.toString());
        due(eleven + "place x m 1 1 1;", ROOM, eleven.length());
        due(eleven + "place", ROOM, eleven.length());
        due(eleven + "place 1", ROOM, eleven.length());
        String four = "one=" + times(4, "if 1<2 then 3 else ");
        good(four + "4;");
        due(four + "if 1<2 then 3 else 4;", ROOM, four.length());
        due(four + "if", ROOM, four.length());
        good(four + "4;" + four.replace("one", "two") + "4;");
        due("one=" + times(7, "(") + "1" + times(7, ")") + ";", ROOM, 10);
        due("one=" + times(7, "("), ROOM, 10);
        due("one=if 1<((((((2))))))then((((((3))))))else(((((((", ROOM, 49);
        good("one=(((((1)+((2))+(3)))));two=((((((1))))));");
        roomOfTokens();
    }

    private static void roomOfTokens() {
        String full = times(133, "prize 1;");
        good(full);
        good(full.substring(8) + "seed 1;");
        String all = times(132, "prize 1;") + "mouth m; ";
        good(all);
        String full399 = times(133, "seed 1;");
        due(full399 + "x", SYNTAX, full399.length());
        due(full399 + "prize", SYNTAX, full399.length() + 5);
        due(full399 + "prize 1", ROOM, full399.length() + 6);
        due(full399 + "prize 1;", ROOM, full399.length() + 6);
        due(full399 + "prize x", SYNTAX, full399.length() + 6);
        due(full399 + "prize 12345", SYNTAX, full399.length() + 6);
        due(full399 + "prize ", SYNTAX, full399.length() + 6);
        // one = E ; has four tokens and two more for each sign: 400 in all, and 402
        String even = "one=1" + times(198, "+1") + ";";
        good(even);
        due(even + "seed", ROOM, even.length());
        due("one=1" + times(199, "+1") + ";", ROOM, 4 + 1 + 2 * 198 + 1);
        due("one=1" + times(900, "+1"), ROOM, 4 + 1 + 2 * 198 + 1);
    }

    private static void meaning() {
        CHECK.title("meaning");
        due("mouth m; place m m 1 1 1;", TWICE, 15);
        due("mouth m; place a m 1 1 1; place a m 1 1 1;", TWICE, 32);
        due("place m m 1 1 1; mouth m;", NAME, 8);
        due("place a b 1 1 1;", NAME, 8);
        due("mouth m; place a a 1 1 1;", NAME, 17);
        due("mouth m; place a b 1 1 1; place b m 1 1 1;", NAME, 17);
        due("mouth m; place a m 0 1 1;", WRONG, 19);
        due("mouth m; place a m 100 1 1;", WRONG, 19);
        due("mouth m; place a m 1 100 1;", WRONG, 21);
        due("mouth m; place a m 1 1 100;", WRONG, 23);
        due("storm 101 0;", WRONG, 6);
        due("storm 100 100;", WRONG, 10);
        due("prize 100;", WRONG, 6);
        due("prize 9999;", WRONG, 6);
    }

    private static void precedence() {
        CHECK.title("precedence");
        due("prize 100; mouth m; mouth", ROOM, 20);
        due("prize 100; mouth m; .", SYNTAX, 20);
        due("mouth m; mouth n; .", ROOM, 9);
        due(". mouth m; mouth n;", SYNTAX, 0);
        due("mouth m; place a b 0 1 1;", NAME, 17);
        due("mouth m; place m b 0 1 1;", TWICE, 15);
        due("mouth m; place a m 0 1 1; place a m 1 1 1;", WRONG, 19);
        due("prize 100; mouth m; place m m 1 1 1;", WRONG, 6);
        due("mouth m; place a b 1 1 1; prize 100", SYNTAX, 35);
    }
}
