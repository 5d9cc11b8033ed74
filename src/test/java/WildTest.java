import java.util.Random;

/** Calls with any arguments in any state: none throws, none changes what it is not to change. */
public final class WildTest {
    private static final Check CHECK = new Check();
    private static final int[] ODD = {Integer.MIN_VALUE, Integer.MIN_VALUE + 1, -100, -2, -1, 0, 1, 2, 3, 4, 7, 11, 12,
        13, 20, 24, 25, 31, 32, 33, 60, 61, 64, 99, 512, 9999, 10000, 1 << 30, Integer.MAX_VALUE};
    private static final String[] TEXTS = {"", "mouth m;", "storm 50 99; seed 9999;",
        "mouth m; place a m 1 0 0; dries = 0 - flow; rains = 0 - 9999 * 9999 * 21; one = 0 - 9999 * 9999 * 21;",
        "mouth m; place a m 99 99 99; place b a 99 99 99; place c b 99 99 99; place d c 99 99 99; place e d 99 99 99;"
            + "place f e 99 99 99; place g f 99 99 99; place h g 99 99 99; place i h 99 99 99; place j i 99 99 99;"
            + "place k j 99 99 99; storm 100 99; prize 99; rains = 9999; one = flow * flow; two = won / (won - 3);",
        "mouth m; place a m 1 2 3; place b m 1 2 3; place c m 1 2 3; place d m 1 2 3; place e m 1 2 3; place f m 1 2 3;"
            + "place g m 1 2 3; place h m 1 2 3; place i m 1 2 3; place j m 1 2 3; place k m 1 2 3; one = 9 / (which - 4);"};

    private final Random random;
    private final SourceDispute x = new SourceDispute();

    private WildTest(int seed) {
        random = new Random(seed);
    }

    public static void main(String[] args) {
        for (int seed = 0; seed < 2500; seed++) {
            CHECK.title("run " + seed);
            new WildTest(seed).run();
        }
        CHECK.finish();
    }

    private int any() {
        return random.nextInt(3) == 0 ? ODD[random.nextInt(ODD.length)] : random.nextInt(14) - 1;
    }

    /** Some 500 calls: things are done, then what is there is looked at ahead of questions and behind them. */
    private void run() {
        for (int round = 0; round < 8; round++) {
            if (round % 3 == 0 && random.nextInt(4) != 0) {
                x.back(x.count(8));
                Check.read(x, TEXTS[random.nextInt(TEXTS.length)]);
            }
            for (int i = 0; i < 9; i++) {
                act(random.nextInt(13));
            }
            long before = print();
            for (int i = 0; i < 9; i++) {
                ask(random.nextInt(31));
            }
            CHECK.due("what is there behind nine questions", print(), before);
        }
    }

    private long print() {
        long print = 0;
        for (int what = 0; what <= 16; what++) {
            print = print * 31 + x.count(what);
        }
        return print;
    }

    private void act(int which) {
        switch (which) {
            case 0 -> x.feed(any(), any(), any(), any(), any());
            case 1 -> x.back(any());
            case 2 -> {
                if (random.nextInt(9) == 0) {
                    x.read();
                }
            }
            case 3 -> x.dam(any(), random.nextBoolean());
            case 4, 5 -> x.turn(any(), any());
            case 6 -> x.rule(any());
            case 7 -> x.months(any());
            case 8 -> x.undo();
            case 9 -> x.tell(any(), any(), any(), random.nextBoolean());
            case 10 -> x.forget();
            case 11 -> x.hold(any());
            default -> x.restore(any());
        }
    }

    private void ask(int which) {
        switch (which) {
            case 0 -> x.place();
            case 1 -> x.spot(any(), any());
            case 2 -> x.claim(any(), any());
            case 3 -> x.winner(any());
            case 4 -> x.agree(any());
            case 5 -> x.behind(any(), any());
            case 6 -> x.margin(any());
            case 7 -> x.richest(any());
            case 8 -> x.rank(any(), any());
            case 9 -> x.vote(any());
            case 10 -> x.dams(any(), any());
            case 11 -> x.loss(any());
            case 12 -> x.main(any());
            case 13 -> x.driest(any(), any());
            case 14 -> x.turnFor(any(), any());
            case 15 -> x.damFor(any(), any());
            case 16 -> x.depth();
            case 17 -> x.order(any());
            case 18 -> x.basin(any(), any());
            case 19 -> x.part(any());
            case 20 -> x.reign(any(), any(), any());
            case 21 -> x.tour();
            case 22 -> x.parted();
            case 23 -> x.meet(any(), any(), any());
            case 24 -> x.when(any());
            case 25 -> x.then(any(), any(), any());
            case 26 -> x.flowIn(any());
            case 27 -> x.year(any(), any(), any());
            case 28 -> x.dyed(any(), any());
            case 29 -> x.watch(any());
            default -> x.count(any());
        }
    }
}
