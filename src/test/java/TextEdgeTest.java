import java.util.List;

/** The edges of texts: each sentence of the document that names one is a title here. */
public final class TextEdgeTest {
    private static final Check CHECK = new Check();
    private static final int NONE = -1;
    private static final int SYNTAX = 1;
    private static final int ROOM = 2;
    private static final int TWICE = 3;
    private static final int NAME = 4;
    private static final int WRONG = 5;
    private static final int MAX = Integer.MAX_VALUE;
    private static final int MIN = Integer.MIN_VALUE;
    private static final List<String> WORDS = List.of("mouth", "place", "rains", "dries", "one", "two", "three",
        "storm", "prize", "seed", "if", "then", "else", "rain", "far", "tale", "month", "flow", "length", "won",
        "which", "above");
    private static final String ELEVEN = "mouth m;" + places(11);

    public static void main(String[] args) {
        bytesAtMost();
        backBelowAndBeyond();
        blanks();
        names();
        ints();
        longest();
        signs();
        noText();
        ends();
        mouthAndPlaces();
        placeNumbers();
        otherNumbers();
        untoldNumbers();
        lastOnes();
        tokens();
        secondMouthTwelfthPlace();
        fifthIf();
        seventhBracket();
        twice();
        names4();
        wrong();
        firstByPlace();
        faultsChangeNothing();
        anew();
        CHECK.finish();
    }

    private static String places(int n) {
        StringBuilder s = new StringBuilder();
        for (int i = 0; i < n; i++) {
            s.append("place p").append((char) ('a' + i)).append(" m 1 1 1;");
        }
        return s.toString();
    }

    private static SourceDispute due(String text, int fault, int place) {
        SourceDispute x = new SourceDispute();
        Check.feed(x, text);
        CHECK.due("bytes of " + text, x.count(8), text.length());
        CHECK.due("read() of " + text, x.read(), fault);
        CHECK.due("place() of " + text, x.place(), place);
        CHECK.due("the tape behind " + text, x.count(8), 0);
        return x;
    }

    private static SourceDispute good(String text) {
        return due(text, 0, NONE);
    }

    private static String fill(String text, int length) {
        return text + " ".repeat(length - text.length());
    }

    // ---- the tape

    private static void bytesAtMost() {
        CHECK.title("2,000 bytes at most");
        good(fill("mouth m;", 2000));
        good(fill("", 1992) + "mouth m;");
        due(fill("mouth m;", 1999) + ".", SYNTAX, 1999);
        due(fill("mouth m", 2000), SYNTAX, 2000);
        CHECK.title("nothing comes, if it would have more than 2,000");
        SourceDispute x = new SourceDispute();
        String text = fill("mouth m;", 1980) + "prize 3;  prize 100;";
        Check.feed(x, text);
        CHECK.due("full", x.count(8), 2000);
        CHECK.due("one feed more", x.feed(0, 0, 0, 0, 0), NONE);
        CHECK.due("as many as ahead", x.count(8), 2000);
        CHECK.due("back one", x.back(1), 1999);
        CHECK.due("19 too many", x.feed(0, 0, 0, 0, 0), NONE);
        CHECK.due("as many as ahead", x.count(8), 1999);
        CHECK.due("back to 1981", x.back(18), 1981);
        CHECK.due("one too many", x.feed(0, 0, 0, 0, 0), NONE);
        CHECK.due("as many as ahead", x.count(8), 1981);
        CHECK.due("back to 1980", x.back(1), 1980);
        CHECK.due("just full", x.feed(0x20202020, 0x20202020, 0x20202020, 0x20202020, 0x20202020), 2000);
        CHECK.due("what was refused has left nothing", x.read(), 0);
        CHECK.due("what was taken back is gone", x.count(0), 1);
        CHECK.due("empty again", x.feed(0x20202020, 0x20202020, 0x20202020, 0x20202020, 0x20202020), 20);
        CHECK.title("twenty bytes, the highest of a first");
        // ";" alone is a fault at its byte: in each of the twenty bytes
        for (int at = 0; at < 20; at++) {
            int[] five = {0x20202020, 0x20202020, 0x20202020, 0x20202020, 0x20202020};
            five[at / 4] = 0x20202020 ^ 0x20202020 & 255 << 24 - at % 4 * 8 | 59 << 24 - at % 4 * 8;
            x = new SourceDispute();
            x.feed(five[0], five[1], five[2], five[3], five[4]);
            CHECK.due("read", x.read(), SYNTAX);
            CHECK.due("place", x.place(), at);
        }
        CHECK.title("bytes of 128 and more");
        x = new SourceDispute();
        CHECK.due("feed", x.feed(-1, MIN, MAX, -1, -1), 20);
        CHECK.due("read", x.read(), SYNTAX);
        CHECK.due("place", x.place(), 0);
    }

    private static void backBelowAndBeyond() {
        CHECK.title("NONE, and nothing goes, if it has not so many, or n is below 0");
        SourceDispute x = new SourceDispute();
        CHECK.due("none of none", x.back(0), 0);
        CHECK.due("one of none", x.back(1), NONE);
        Check.feed(x, "mouth mmm; place m ");
        for (int n : new int[] {-1, -19, MIN, 20, 21, 2000, 2001, MAX}) {
            CHECK.due("back " + n, x.back(n), NONE);
            CHECK.due("as many as ahead", x.count(8), 19);
        }
        CHECK.due("back 0", x.back(0), 19);
        CHECK.due("the last ones go", x.back(9), 10);
        CHECK.due("read", x.read(), 0);
        CHECK.due("the first ones stay", x.count(0), 1);
        Check.feed(x, "mouth m;");
        CHECK.due("all", x.back(8), 0);
        CHECK.due("read nothing", x.read(), 0);
        CHECK.due("no mouth", x.count(0), 0);
        Check.feed(x, "mouth m; prize");
        x.back(5);
        Check.feed(x, "place a m 1 1 1;");
        CHECK.due("what comes is behind what stays", x.read(), 0);
        CHECK.due("places", x.count(0), 2);
    }

    // ---- tokens

    private static boolean isBlank(int c) {
        return c == 9 || c == 10 || c == 13 || c == 32;
    }

    private static boolean isLetter(int c) {
        return c >= 97 && c <= 122;
    }

    private static boolean isDigit(int c) {
        return c >= 48 && c <= 57;
    }

    /** Each of the 256 bytes alone, between a word and a NAME, behind a NAME, between two INTS. */
    private static void blanks() {
        CHECK.title("blanks (9, 10, 13, 32); all else is no TOKEN");
        for (int c = 0; c < 256; c++) {
            char sign = (char) c;
            boolean blank = isBlank(c);
            due("" + sign, blank ? 0 : SYNTAX, blank ? NONE : 0);
            due("mouth" + sign + "m;", blank ? 0 : SYNTAX, blank ? NONE : isLetter(c) ? 0 : 5);
            boolean name = blank || isLetter(c);
            due("mouth a" + sign + ";", name ? 0 : SYNTAX, name ? NONE : c == ';' ? 8 : 7);
            boolean sum = isDigit(c) || "+-*/".indexOf(sign) >= 0;
            due("one=1" + sign + "2;", sum ? 0 : SYNTAX, sum ? NONE : blank || c == ';' ? 6 : 5);
        }
        good("\t\n\r mouth\t\n\r m\t\n\r ;\t\n\r ");
        good("mouth m;place a m 1 1 1;one=if(1)<(2)then(3)else(4);");
    }

    private static void names() {
        CHECK.title("NAMES (letters a .. z, 8 at most, none of the words in quotes)");
        good("mouth a;");
        good("mouth z;");
        good("mouth azazazaz;");
        due("mouth azazazaza;", SYNTAX, 6);
        due("mouth " + "z".repeat(500) + ";", SYNTAX, 6);
        due("mouth m; place azazazaza m 1 1 1;", SYNTAX, 15);
        due("mouth m; place a azazazaza 1 1 1;", SYNTAX, 17);
        for (String word : WORDS) {
            due("mouth " + word + ";", SYNTAX, 6);
            due("mouth m; place " + word + " m 1 1 1;", SYNTAX, 15);
            due("mouth m; place a " + word + " 1 1 1;", SYNTAX, 17);
            good("mouth " + word + "x;");
            good("mouth x" + word + ";");
            String cut = word.substring(0, word.length() - 1);
            due("mouth " + cut + ";", WORDS.contains(cut) ? SYNTAX : 0, WORDS.contains(cut) ? 6 : NONE);
        }
        CHECK.title("NAMES are alike only if all their letters are");
        good("mouth abcdefgh; place abcdefgi abcdefgh 1 1 1; place bbcdefgh abcdefgi 1 1 1;");
        good("mouth a; place aa a 1 1 1; place aaa aa 1 1 1; place aaaa a 1 1 1; place aaaaaaaa a 1 1 1;");
        good("mouth ab; place ba ab 1 1 1; place abc ba 1 1 1; place acb ba 1 1 1; place cab ba 1 1 1;");
        SourceDispute x = good("mouth zz; place az zz 1 1 1; place za zz 1 1 1; place zzzzzzzz az 1 1 1;");
        CHECK.due("into which", x.spot(3, 0), 1);
    }

    private static void ints() {
        CHECK.title("INTS (1 to 4 digits); a longer one is no TOKEN");
        good("prize 7;");
        good("prize 07;");
        good("prize 007;");
        SourceDispute x = good("prize 0099; mouth m; place a m 0001 0002 0003; one = 0012; two = 9999;");
        CHECK.due("length", x.spot(1, 1), 1);
        CHECK.due("rain", x.spot(1, 2), 2);
        CHECK.due("tale", x.spot(1, 3), 3);
        CHECK.due("by tens", x.claim(1, 0), 12);
        CHECK.due("the greatest", x.claim(1, 1), 9999);
        due("prize 00000;", SYNTAX, 6);
        due("prize 00099;", SYNTAX, 6);
        due("seed 10000;", SYNTAX, 5);
        due("seed 99999;", SYNTAX, 5);
        due("one = 10000;", SYNTAX, 6);
        due("seed " + "1".repeat(300) + ";", SYNTAX, 5);
        due("prize;", SYNTAX, 5);
    }

    private static void longest() {
        CHECK.title("TOKENS, the longest that can be, with blanks between or not");
        good("mouth m;prize1;seed2;storm3 4;");
        good("one=if1<2then3else4;");
        good("mouth m;place a m1 2 3;");
        due("mouthm;", SYNTAX, 0);
        due("storm 34;", SYNTAX, 8);
        due("prize 1 2;", SYNTAX, 8);
        due("one = rainfar;", SYNTAX, 6);
        due("one = farfar;", SYNTAX, 6);
        due("one = if 1 < 2 thenelse 3;", SYNTAX, 15);
        due("mouth m; place ab 1 1 1;", SYNTAX, 18);
        due("mouth m1;", SYNTAX, 7);
    }

    private static void signs() {
        CHECK.title("SIGNS ; = + - * / < ( )");
        good("one=(1+2-3)*4/5;");
        good("one=if 1<2 then 3 else 4;");
        due("one=1>2;", SYNTAX, 5);
        due("one=if 1>2 then 3 else 4;", SYNTAX, 8);
        due("one=if 1=2 then 3 else 4;", SYNTAX, 8);
        due("one=if 1<=2 then 3 else 4;", SYNTAX, 9);
        due("one==1;", SYNTAX, 4);
        due("one=1++1;", SYNTAX, 6);
        due("one=1--1;", SYNTAX, 6);
        due("one=+1;", SYNTAX, 4);
        due("one=(-1);", SYNTAX, 5);
        due("one=1*-1;", SYNTAX, 6);
        due("one=1//1;", SYNTAX, 6);
        due("one=(1))+1;", SYNTAX, 7);
        due("one 1;", SYNTAX, 4);
    }

    // ---- what a text can be

    private static void noText() {
        CHECK.title("an empty text");
        SourceDispute x = good("");
        CHECK.due("no mouth", x.count(0), 0);
        good(" ");
        good(" ".repeat(2000));
        due(";", SYNTAX, 0);
        due(" ;", SYNTAX, 1);
        due("mouth m;;", SYNTAX, 8);
        x = good("storm 100 99; prize 7; seed 9999; one = 1;");
        CHECK.due("no mouth", x.count(0), 0);
        CHECK.due("it storms all the same", x.count(12), 1);
    }

    /** A text cut behind each of its tokens, and the blank behind that. */
    private static void ends() {
        CHECK.title("the text's end: its length");
        String text = "mouth m ; place a m 1 2 3 ; rains = if far < 2 then ( 3 + 4 ) * 5 else if 6 / 7 < 8 - 9 then"
            + " won else which ; storm 10 11 ; prize 12 ; seed 13 ;";
        int at = 0;
        String last = "";
        for (String token : text.split(" ")) {
            String cut = text.substring(0, at);
            boolean whole = last.isEmpty() || last.equals(";");
            due(cut, whole ? 0 : SYNTAX, whole ? NONE : cut.length());
            String noBlank = cut.isEmpty() ? "" : cut.substring(0, cut.length() - 1);
            due(noBlank, whole ? 0 : SYNTAX, whole ? NONE : noBlank.length());
            due(cut + "?", SYNTAX, cut.length());
            at += token.length() + 1;
            last = token;
        }
        good(text);
    }

    private static void mouthAndPlaces() {
        CHECK.title("MOUTH: at most one, numbered 0; PLACES, 11 more at most, from 1 on as they stand");
        SourceDispute x = good("mouth m;");
        CHECK.due("places", x.count(0), 1);
        CHECK.due("its number", x.spot(0, 0), -2);
        x = good("mouth m;" + places(1));
        CHECK.due("places", x.count(0), 2);
        x = good(ELEVEN);
        CHECK.due("places", x.count(0), 12);
        CHECK.due("the last one", x.spot(11, 1), 1);
        CHECK.due("none behind it", x.spot(12, 1), NONE);
        x = good("mouth m; place x m 3 0 0; place y x 2 0 0; place a y 1 0 0;");
        for (int p = 1; p <= 3; p++) {
            CHECK.due("into the one ahead", x.spot(p, 0), p - 1);
            CHECK.due("as they stand", x.spot(p, 1), 4 - p);
        }
        CHECK.title("into which one it runs, of those told ahead");
        x = good("mouth m; place a m 1 1 1; place b a 1 1 1; place c m 1 1 1; place d c 1 1 1; place e a 1 1 1;");
        int[] into = {-2, 0, 1, 0, 3, 1};
        for (int p = 0; p < into.length; p++) {
            CHECK.due("into", x.spot(p, 0), into[p]);
        }
    }

    private static void number(String text, int at, int least, int most) {
        for (int value : new int[] {least - 1, least, most, most + 1, 9999}) {
            boolean is = value >= least && value <= most;
            if (value >= 0) {
                due(text.replace("?", "" + value), is ? 0 : WRONG, is ? NONE : at);
            }
        }
    }

    private static void placeNumbers() {
        CHECK.title("LENGTH 1 .. 99; RAIN 0 .. 99, TALE 0 .. 99");
        number("mouth m; place a m ? 1 1;", 19, 1, 99);
        number("mouth m; place a m 1 ? 1;", 21, 0, 99);
        number("mouth m; place a m 1 1 ?;", 23, 0, 99);
        due("mouth m; place a m 0 0 0;", WRONG, 19);
        due("mouth m; place a m 0000 0 0;", WRONG, 19);
        SourceDispute x = good("mouth m; place a m 99 0 99; place b a 1 99 0;");
        int[] want = {99, 0, 99, 1, 99, 0};
        for (int i = 0; i < 6; i++) {
            CHECK.due("number " + i, x.spot(1 + i / 3, 1 + i % 3), want[i]);
        }
    }

    private static void otherNumbers() {
        CHECK.title("STORM 0 .. 100, by how much 0 .. 99, PRIZE 0 .. 99, SEED 0 .. 9999");
        number("storm ? 1;", 6, 0, 100);
        number("storm 1 ?;", 8, 0, 99);
        number("prize ?;", 6, 0, 99);
        good("seed 0;");
        good("seed 9999;");
        SourceDispute x = good("storm 0 99;");
        SourceDispute y = good("storm 100 0;");
        for (int i = 0; i < 40; i++) {
            CHECK.due("in none of 100", x.count(12), 0);
            CHECK.due("in 100 of 100, by nothing", y.count(12), 1);
            x.months(1);
            y.months(1);
        }
        x = good("prize 0; mouth m; place a m 1 1 1;");
        x.months(3);
        CHECK.due("a prize of 0", x.count(7), 0);
        x = good("prize 99; mouth m; place a m 1 1 1;");
        x.months(3);
        CHECK.due("a prize of 99", x.count(7), 297);
    }

    /** Texts are told one behind the other, so that what is not told is that of none of them. */
    private static void untoldNumbers() {
        CHECK.title("RAINS (rain), DRIES (0), ONE (far), TWO (flow), THREE (tale); (0, 0); (1); (0), if not told");
        String all = "mouth m; place a m 9 9 9; rains = 7; dries = 3; one = 1; two = 2; three = 3; storm 100 50;"
            + "prize 30; seed 77;";
        SourceDispute x = good(all);
        for (int again = 0; again < 4; again++) {
            CHECK.due("told", Check.read(x, all), 0);
            CHECK.due("told", Check.read(x, all), 0);
            CHECK.due("a storm", x.count(12), 1);
            CHECK.due("not told", Check.read(x, "mouth m; place a m 4 5 6;"), 0);
            CHECK.due("rains", x.spot(1, 11), 5);
            CHECK.due("rains at the mouth", x.spot(0, 11), 0);
            CHECK.due("dries", x.spot(1, 12), 0);
            CHECK.due("one", x.claim(1, 0), 4);
            CHECK.due("two", x.claim(1, 1), 5);
            CHECK.due("three", x.claim(1, 2), 6);
            CHECK.due("no storm", x.count(12), 0);
            CHECK.due("a month", x.months(1), 1);
            CHECK.due("prize", x.spot(1, 10), 1);
        }
        CHECK.title("STORM by how much (0), if not told");
        x = good(all);
        Check.read(x, all);
        Check.read(x, "mouth m; place s m 1 5 0; place t m 1 5 0; one = if flow < 6 then 1 else which; storm 100 0;");
        CHECK.due("by nothing", x.then(1, 5, 0), 5);
        CHECK.title("SEED (0), if not told");
        SourceDispute zero = good("storm 50 5; seed 0;");
        x = good("storm 50 5; seed 4242;");
        Check.read(x, "storm 50 5; seed 4243;");
        Check.read(x, "storm 50 5;");
        for (int i = 0; i < 60; i++) {
            CHECK.due("storms of the seed 0", x.count(12), zero.count(12));
            x.months(1);
            zero.months(1);
        }
    }

    private static void lastOnes() {
        CHECK.title("the last one");
        String text = "mouth m; place a m 4 5 6;";
        for (String law : List.of("one", "two", "three")) {
            SourceDispute x = good(text + law + " = 11;" + law + " = if 1 < 2 then 12 else 13;" + law + " = 14;");
            CHECK.due("the last " + law, x.claim(1, List.of("one", "two", "three").indexOf(law)), 14);
        }
        SourceDispute x = good(text + "rains = 4; dries = 1; rains = 3; dries = 2;");
        CHECK.due("rains", x.spot(1, 11), 3);
        CHECK.due("dries", x.spot(1, 12), 2);
        x = good("storm 0 9; storm 100 9; prize 2; prize 3; " + text);
        CHECK.due("storm", x.count(12), 1);
        x.months(2);
        CHECK.due("prize", x.count(7), 6);
        SourceDispute y = good("storm 50 9; seed 3; seed 8;");
        SourceDispute z = good("storm 50 9; seed 8;");
        for (int i = 0; i < 40; i++) {
            CHECK.due("seed", y.count(12), z.count(12));
            y.months(1);
            z.months(1);
        }
    }

    // ---- faults 1 and 2

    private static void tokens() {
        CHECK.title("a 401st TOKEN");
        // four tokens, and two more for each sign: 400 in all
        String full = "one=1" + "+1".repeat(198) + ";";
        good(full);
        good(full + " \n");
        due("one=1" + "+1".repeat(199) + ";", ROOM, 4 + 1 + 2 * 198 + 1);
        due(full + "mouth m;", ROOM, full.length());
        due(full + " seed", ROOM, full.length() + 1);
        due(full + "m", SYNTAX, full.length());
        due(full + ";", SYNTAX, full.length());
        due(full + "?", SYNTAX, full.length());
        due(full + "12345", SYNTAX, full.length());
        String open = full.substring(0, full.length() - 1);
        due(open, SYNTAX, open.length());
        due(open + "+", SYNTAX, open.length() + 1);
        due(open + "+1;", ROOM, open.length() + 1);
        due(open + "+)", SYNTAX, open.length() + 1);
        String sevens = "prize 7;".repeat(133);
        due(sevens + "prize", SYNTAX, sevens.length() + 5);
        due(sevens + "prize 7", ROOM, sevens.length() + 6);
        due(sevens + "prize ;", SYNTAX, sevens.length() + 6);
        due("prize 100;one=" + "1+".repeat(990), ROOM, 10 + 4 + 395);
        due("one=" + "1+".repeat(990), ROOM, 4 + 398);
        due("one=" + "1*".repeat(990), ROOM, 4 + 398);
        CHECK.title("a 400th step of a law is gone through");
        SourceDispute x = good("mouth m;" + "place a m 1 1 1;" + "one=1" + "+1".repeat(192) + ";");
        CHECK.due("a long sum", x.claim(1, 0), 193);
        x = good("mouth m;" + "place a m 1 1 1;" + "one=1" + "*1".repeat(191) + "+7;");
        CHECK.due("a long product", x.claim(1, 0), 8);
    }

    private static void secondMouthTwelfthPlace() {
        CHECK.title("a second MOUTH, a 12th PLACE (at its first TOKEN)");
        due("mouth m; mouth n;", ROOM, 9);
        due("mouth m; mouth m;", ROOM, 9);
        due("mouth m; mouth", ROOM, 9);
        due("mouth m; mouth ;", ROOM, 9);
        due("mouth m; mouth ?", ROOM, 9);
        due("mouth m; place mouth m 1 1 1;", SYNTAX, 15);
        due("mouth mouth;", SYNTAX, 6);
        due(ELEVEN + "mouth n;", ROOM, ELEVEN.length());
        due(ELEVEN + "place x m 1 1 1;", ROOM, ELEVEN.length());
        due(ELEVEN + "place", ROOM, ELEVEN.length());
        due(ELEVEN + "place place", ROOM, ELEVEN.length());
        due(ELEVEN + " place ?", ROOM, ELEVEN.length() + 1);
        String noMouth = "place a m 1 1 1;".repeat(11);
        due(noMouth, NAME, 8);
        due(noMouth + "place a m 1 1 1;", ROOM, noMouth.length());
        due(noMouth + "mouth m;", NAME, 8);
        good("prize 3;" + ELEVEN + "prize 4;");
    }

    private static void fifthIf() {
        CHECK.title("a 5th if of a LAW (at it)");
        String four = "=" + "if 1<2 then 3 else ".repeat(4);
        good("one" + four + "4;");
        good("one" + four + "4;two" + four + "4;three" + four + "4;rains" + four + "4;");
        good("one" + four + "4;one" + four + "4;");
        due("one" + four + "if 1<2 then 3 else 4;", ROOM, 3 + four.length());
        due("one" + four + "if", ROOM, 3 + four.length());
        due("one" + four + "if if", ROOM, 3 + four.length());
        due("one" + four + "(if", SYNTAX, 4 + four.length());
        due("one=5;two" + four + "if", ROOM, 9 + four.length());
        String three = "=" + "if 1<2 then 3 else ".repeat(3);
        good("one" + three + "4;");
        due("one" + three + "if 1<2 then if", SYNTAX, 3 + three.length() + 12);
        due("one" + four + "4 else", SYNTAX, 3 + four.length() + 2);
        CHECK.title("the first if that holds of four, else the last one");
        for (int holds = 1; holds <= 5; holds++) {
            String law = "one=";
            for (int i = 1; i <= 4; i++) {
                law += "if " + (i < holds ? "2<2" : "1<2") + " then " + (10 + i) + " else ";
            }
            CHECK.due("the E", good("mouth m; place a m 1 1 1;" + law + "15;").claim(1, 0), 10 + holds);
        }
    }

    private static void seventhBracket() {
        CHECK.title("a 7th ( within one another (at it)");
        String six = "((((((";
        SourceDispute x = good("mouth m; place a m 1 1 1; one=((((((7))))));");
        CHECK.due("six", x.claim(1, 0), 7);
        due("one=" + six + "(7)))))));", ROOM, 10);
        due("one=" + six + "(", ROOM, 10);
        due("one=" + six + "7(", SYNTAX, 11);
        due("one=" + six + ")", SYNTAX, 10);
        x = good("mouth m; place a m 1 1 1; one=((((((1))))))+((((((2))))))*((((((3))))));");
        CHECK.due("side by side", x.claim(1, 0), 7);
        good("one=(1+(2+(3+(4+(5+(6+7*8))+((9))))));");
        due("one=(1+(2+(3+(4+(5+(6+7*8))+(((9)))))));", ROOM, 30);
        due("one=(1+(2+(3+(4+(5+(6+7*(8)))))));", ROOM, 24);
        good("one=if((((((1))))))<((((((2))))))then((((((3))))))else((((((4))))));");
        due("one=if(((((((", ROOM, 12);
        due("one=if 1<(((((((", ROOM, 15);
        due("one=if 1<2 then(((((((", ROOM, 21);
        due("one=if 1<2 then 3 else(((((((", ROOM, 28);
        x = good("mouth m; place a m 1 1 1; one=1+2*(3+4*(5+6*(7+8*(9+2*(3+4*(5+6))))));");
        CHECK.due("six with sums", x.claim(1, 0), 1 + 2 * (3 + 4 * (5 + 6 * (7 + 8 * (9 + 2 * (3 + 4 * (5 + 6)))))));
        x = good("mouth m; place a m 1 1 1; one=if 1+2*(3+2*(3+2*(3+2*(3+2*(3+2*(3+4)))))) < 1+2*(3+2*(3+2*(3+2*(3+2*(3"
            + "+2*(4+4)))))) then 5 else 6;");
        CHECK.due("six on both sides", x.claim(1, 0), 5);
    }

    // ---- faults 3, 4 and 5

    private static void twice() {
        CHECK.title("TWICE: a NAME told already");
        due("mouth m; place m m 1 1 1;", TWICE, 15);
        due("mouth m; place a m 1 1 1; place a m 1 1 1;", TWICE, 32);
        due("mouth m; place a m 1 1 1; place b m 1 1 1; place a b 1 1 1;", TWICE, 49);
        due("mouth m; place abcdefgh m 1 1 1; place abcdefgh m 1 1 1;", TWICE, 39);
        String ten = "mouth m;" + places(10);
        due(ten + "place pj m 1 1 1;", TWICE, ten.length() + 6);
        due(ten + "place pa m 1 1 1;", TWICE, ten.length() + 6);
        due(ten + "place m m 1 1 1;", TWICE, ten.length() + 6);
    }

    private static void names4() {
        CHECK.title("NAME: (at it) no such MOUTH or PLACE told ahead");
        due("place a m 1 1 1;", NAME, 8);
        due("place a m 1 1 1; mouth m;", NAME, 8);
        due("mouth m; place a b 1 1 1;", NAME, 17);
        due("mouth m; place a b 1 1 1; place b m 1 1 1;", NAME, 17);
        due("mouth m; place a a 1 1 1;", NAME, 17);
        due("mouth m; place a mm 1 1 1;", NAME, 17);
        CHECK.title("a NAME told more than once is that of the first one");
        due("mouth m; place m m 1 1 1; place a m 1 1 1;", TWICE, 15);
    }

    private static void wrong() {
        CHECK.title("WRONG (at the INT): a number not as told above");
        due("mouth m; place a m 0 100 100;", WRONG, 19);
        due("mouth m; place a m 1 100 100;", WRONG, 21);
        due("mouth m; place a m 1 1 100;", WRONG, 23);
        due("storm 101 100;", WRONG, 6);
        due("storm 100 100;", WRONG, 10);
        due("prize 100;", WRONG, 6);
        due("prize 1; prize 100; prize 1;", WRONG, 15);
        due(ELEVEN.substring(0, ELEVEN.length() - 2) + "100;", WRONG, ELEVEN.length() - 2);
    }

    private static void firstByPlace() {
        CHECK.title("the first by its place; SYNTAX and ROOM ahead of all others");
        due("mouth m; mouth n; ?", ROOM, 9);
        due("mouth m; ? mouth n;", SYNTAX, 9);
        due("prize 100; mouth m; mouth n;", ROOM, 20);
        due("place a b 1 1 1; prize", SYNTAX, 22);
        due("mouth m; place m m 1 1 1; one = " + "(".repeat(7), ROOM, 38);
        due("mouth m; place m x 0 1 1;", TWICE, 15);
        due("mouth m; place a x 0 1 1;", NAME, 17);
        due("prize 100; mouth m; place m x 0 1 1;", WRONG, 6);
        due("mouth m; place a x 1 1 1; place a m 1 1 1;", NAME, 17);
    }

    // ---- what a text does

    private static void faultsChangeNothing() {
        CHECK.title("a text with a FAULT changes nothing but the tape");
        String[] faults = {"mouth n; ?", "mouth n; mouth m;", "mouth n; place n n 1 1 1;", "mouth n; place a b 1 1 1;",
            "mouth n; place a n 1 2 3; prize 100;"};
        for (int fault = 1; fault <= 5; fault++) {
            SourceDispute x = good("mouth m; place a m 4 5 6; place b m 7 8 9; place c a 1 2 3; storm 40 9; seed 8;"
                + "prize 5; one = far * 2; dries = 1;");
            x.hold(1);
            x.dam(2, true);
            x.turn(3, 2);
            x.rule(1);
            x.months(3);
            x.tell(2, 0, 9, true);
            Check.feed(x, faults[fault - 1]);
            x.back(faults[fault - 1].length());
            String before = Check.print(x).replaceAll(" -1$", "");
            CHECK.due("read", Check.read(x, faults[fault - 1]), fault);
            CHECK.due("place", x.place() >= 0, true);
            CHECK.due("the tape", x.count(8), 0);
            CHECK.due("all else", Check.print(x).replaceAll(" [0-9]+$", "").equals(before), true);
            CHECK.due("undo", x.undo() && x.undo() && x.undo() && x.undo() && !x.undo(), true);
            CHECK.due("what is told", x.dyed(1, 1), 4);
            x.months(1);
            CHECK.due("what is held", x.restore(1), true);
            CHECK.due("month", x.count(1), 0);
        }
    }

    private static void anew() {
        CHECK.title("else it is in place of the one ahead: month 0, no dams, all run as told, law ONE rules, ..");
        String text = "mouth m; place a m 4 5 6; place b m 7 8 9; place c a 1 2 3; prize 5;";
        SourceDispute x = good(text);
        String fresh = Check.print(x);
        for (int again = 0; again < 2; again++) {
            x.dam(2, true);
            x.turn(3, 2);
            x.rule(2);
            x.months(3);
            x.tell(2, 0, 9, true);
            x.hold(0);
            x.hold(2);
            CHECK.due("has won", x.count(7), 15);
            CHECK.due("read", Check.read(x, text), 0);
            CHECK.same("read", x, fresh);
            CHECK.due("nothing can be undone", x.undo(), false);
            CHECK.due("nothing is told", x.dyed(1, 0), NONE);
            CHECK.due("slots", x.restore(0) || x.restore(1) || x.restore(2), false);
        }
        CHECK.due("an empty one", x.read(), 0);
        CHECK.due("no mouth", x.count(0), 0);
        CHECK.due("flow", x.count(6), 0);
        CHECK.title("the byte of the latest read()'s FAULT; NONE without");
        CHECK.due("none yet", new SourceDispute().place(), NONE);
        CHECK.due("a fault", Check.read(x, "   ?"), SYNTAX);
        CHECK.due("its byte", x.place(), 3);
        CHECK.due("another", Check.read(x, "prize 100;"), WRONG);
        CHECK.due("its byte", x.place(), 6);
        CHECK.due("at the first byte", Check.read(x, "?"), SYNTAX);
        CHECK.due("its byte", x.place(), 0);
        CHECK.due("none", x.read(), 0);
        CHECK.due("without", x.place(), NONE);
    }
}
