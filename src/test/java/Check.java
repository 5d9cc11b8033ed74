import java.nio.charset.StandardCharsets;

/** What the tests have in common: dues that are counted, texts that are fed. */
final class Check {
    private int wrong = 0;
    private int asked = 0;
    private String title = "";

    void title(String words) {
        title = words;
    }

    void due(String call, long got, long want) {
        asked++;
        if (got != want) {
            wrong++;
            if (wrong <= 50) {
                System.out.println(title + ": " + call + " answered " + got + ", due is " + want);
            }
        }
    }

    void due(String call, boolean got, boolean want) {
        due(call, got ? 1 : 0, want ? 1 : 0);
    }

    int wrongs() {
        return wrong;
    }

    void finish() {
        System.out.println(asked + " answers, " + wrong + " not as due");
        if (wrong != 0 || asked == 0) {
            System.exit(1);
        }
    }

    /** Puts a text on the tape: twenty bytes a call, what is too many taken back. */
    static void feed(SourceDispute x, String text) {
        byte[] bytes = text.getBytes(StandardCharsets.ISO_8859_1);
        for (int at = 0; at < bytes.length; at += 20) {
            x.feed(four(bytes, at), four(bytes, at + 4), four(bytes, at + 8), four(bytes, at + 12), four(bytes, at + 16));
        }
        x.back((20 - bytes.length % 20) % 20);
    }

    private static int four(byte[] bytes, int at) {
        int value = 0;
        for (int i = at; i < at + 4; i++) {
            value = value << 8 | (i < bytes.length ? bytes[i] & 255 : 32);
        }
        return value;
    }

    static int read(SourceDispute x, String text) {
        feed(x, text);
        return x.read();
    }

    /** A new object that has read a text without a fault. */
    static SourceDispute with(String text) {
        SourceDispute x = new SourceDispute();
        if (read(x, text) != 0) {
            throw new IllegalStateException("fault at " + x.place() + " in: " + text);
        }
        return x;
    }
}
