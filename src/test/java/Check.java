import java.nio.charset.StandardCharsets;

/** What the tests have in common: dues that are counted, texts that are fed. */
final class Check {
    private int wrong = 0;
    private int asked = 0;
    private String title = "";

    void title(String words) {
        title = words;
    }

    void due(String call, long got, long want) {
        asked++;
        if (got != want) {
            wrong++;
            if (wrong <= 50) {
                System.out.println(title + ": " + call + " answered " + got + ", due is " + want);
            }
        }
    }

    void due(String call, boolean got, boolean want) {
        due(call, got ? 1 : 0, want ? 1 : 0);
    }

    int wrongs() {
        return wrong;
    }

    void finish() {
        System.out.println(asked + " answers, " + wrong + " not as due");
        if (wrong != 0 || asked == 0) {
            System.exit(1);
        }
    }

    /** Puts a text on the tape: twenty bytes a call, what is too many taken back. */
    static void feed(SourceDispute x, String text) {
        byte[] bytes = text.getBytes(StandardCharsets.ISO_8859_1);
        for (int at = 0; at < bytes.length; at += 20) {
            x.feed(four(bytes, at), four(bytes, at + 4), four(bytes, at + 8), four(bytes, at + 12), four(bytes, at + 16));
        }
        x.back((20 - bytes.length % 20) % 20);
    }

    private static int four(byte[] bytes, int at) {
        int value = 0;
        for (int i = at; i < at + 4; i++) {
            value = value << 8 | (i < bytes.length ? bytes[i] & 255 : 32);
        }
        return value;
    }

    static int read(SourceDispute x, String text) {
        feed(x, text);
        return x.read();
    }

    /** What is there, in words: two of these are alike if nothing has happened in between (some hundred calls). */
    static String print(SourceDispute x) {
        StringBuilder print = new StringBuilder();
        for (int what = 0; what <= 16; what++) {
            print.append(what).append('=').append(x.count(what)).append(' ');
        }
        for (int p = 0; p < x.count(0); p++) {
            for (int what : new int[] {0, 1, 2, 3, 9, 10, 11, 12}) {
                print.append(x.spot(p, what)).append(' ');
            }
        }
        for (int law = 0; law < 3; law++) {
            print.append(x.winner(law)).append(' ').append(x.margin(law)).append(' ');
        }
        return print.append(x.dyed(x.count(10), 1)).append(' ').append(x.place()).toString();
    }

    /** LOT 100 of a seed for a month, written out. */
    static int lot(int seed, int month) {
        int h = (seed ^ 147) * 1103515245 + 12345;
        h = h ^ h >>> 15;
        h = (h ^ 4 * month) * 1103515245 + 12345;
        h = h ^ h >>> 15;
        return (h >>> 1) % 100;
    }

    /** Whether nothing has happened since such a print was made. */
    void same(String call, SourceDispute x, String before) {
        asked++;
        String now = print(x);
        if (!now.equals(before)) {
            wrong++;
            System.out.println(title + ": " + call + " changed\n  " + before + " into\n  " + now);
        }
    }

    /** A new object that has read a text without a fault. */
    static SourceDispute with(String text) {
        SourceDispute x = new SourceDispute();
        if (read(x, text) != 0) {
            throw new IllegalStateException("fault at " + x.place() + " in: " + text);
        }
        return x;
    }
}
