import java.nio.charset.StandardCharsets;
import java.util.List;

/** What the tests share: answers that are due, and TEXTS that are fed as words. */
final class Check {
    private String test = "";
    private int asked = 0;
    private int wrong = 0;

    /** The name under which wrong answers are told from here on. */
    void begin(String name) {
        test = name + ": ";
    }

    void due(String call, long got, long want) {
        asked++;
        if (got != want) {
            wrong++;
            System.out.println(test + call + " answered " + got + ", due is " + want);
        }
    }

    void due(String call, boolean got, boolean want) {
        due(call, got ? 1 : 0, want ? 1 : 0);
    }

    /** Two views of objects that are to be alike; the first row in which they aren't is told. */
    void same(String call, List<String> got, List<String> want) {
        asked++;
        if (!got.equals(want)) {
            wrong++;
            int i = 0;
            while (i < got.size() && i < want.size() && got.get(i).equals(want.get(i))) {
                i++;
            }
            String had = i < got.size() ? got.get(i) : "nothing";
            String due = i < want.size() ? want.get(i) : "nothing";
            System.out.println(test + call + ": " + had + ", due is " + due);
        }
    }

    int wrong() {
        return wrong;
    }

    /** Ends the test with exit code 1 if an answer was wrong. */
    void close(String name) {
        System.out.println(name + ": " + asked + " answers, " + wrong + " wrong");
        if (wrong != 0 || asked == 0) {
            System.exit(1);
        }
    }

    static byte[] bytes(String text) {
        return text.getBytes(StandardCharsets.ISO_8859_1);
    }

    /** The bytes from there on as the words of one feed, with zeros behind the last. */
    static int[] words(byte[] text, int from) {
        int[] words = new int[5];
        for (int i = 0; i < 20; i++) {
            int b = from + i < text.length ? text[from + i] & 255 : 0;
            words[i / 4] = words[i / 4] << 8 | b;
        }
        return words;
    }

    /** Puts a text on the empty tape. */
    static void put(LastName x, String text) {
        byte[] all = bytes(text);
        x.end(0);
        for (int i = 0; i < all.length; i += 20) {
            int[] w = words(all, i);
            x.feed(w[0], w[1], w[2], w[3], w[4]);
        }
        x.end(all.length);
    }

    static int read(LastName x, String text) {
        put(x, text);
        return x.text();
    }
}
