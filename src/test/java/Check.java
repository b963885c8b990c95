import java.nio.charset.StandardCharsets;

/** What the tests share: answers that are due, and TEXTS that are fed as words. */
final class Check {
    private int asked = 0;
    private int wrong = 0;

    void due(String call, long got, long want) {
        asked++;
        if (got != want) {
            wrong++;
            System.out.println(call + " answered " + got + ", due is " + want);
        }
    }

    void due(String call, boolean got, boolean want) {
        due(call, got ? 1 : 0, want ? 1 : 0);
    }

    /** Ends the test with exit code 1 if an answer was wrong. */
    void close(String test) {
        System.out.println(test + ": " + asked + " answers, " + wrong + " wrong");
        if (wrong != 0 || asked == 0) {
            System.exit(1);
        }
    }

    static byte[] bytes(String text) {
        return text.getBytes(StandardCharsets.ISO_8859_1);
    }

    /** The bytes from there on as the words of one feed, with zeros behind the last. */
    static int[] words(byte[] text, int from) {
        int[] words = new int[5];
        for (int i = 0; i < 20; i++) {
            int b = from + i < text.length ? text[from + i] & 255 : 0;
            words[i / 4] = words[i / 4] << 8 | b;
        }
        return words;
    }

    /** Puts a text on the empty tape. */
    static void put(LastName x, String text) {
        byte[] all = bytes(text);
        x.end(0);
        for (int i = 0; i < all.length; i += 20) {
            int[] w = words(all, i);
            x.feed(w[0], w[1], w[2], w[3], w[4]);
        }
        x.end(all.length);
    }

    static int read(LastName x, String text) {
        put(x, text);
        return x.text();
    }
}
