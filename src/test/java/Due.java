import java.nio.charset.StandardCharsets;

/** What the tests share: it prints each answer that is not the one due, and ends with 1 if there was one. */
final class Due {
    static final int NONE = -1000000, BAD = -1000001, STATE = -1000002, FULL = -1000003;
    static final int NULL = -1000011, PLACE = -1000012, KIND = -1000013, SIZE = -1000014, STORE = -1000015;
    static final int LEAST = Integer.MIN_VALUE, MOST = Integer.MAX_VALUE;

    private int wrong = 0;
    private String promise = "";

    void promise(int number, String words) {
        promise = "promise " + number + " (" + words + "): ";
    }

    void is(String call, long got, long want) {
        if (got != want) {
            wrong++;
            System.out.println(promise + call + " answered " + got + ", due is " + want);
        }
    }

    void all(String call, long want, long... got) {
        for (int i = 0; i < got.length; i++) {
            is(call + " [" + i + "]", got[i], want);
        }
    }

    void row(String call, long[] got, long... want) {
        is(call + ": how many", got.length, want.length);
        for (int i = 0; i < want.length && i < got.length; i++) {
            is(call + " [" + i + "]", got[i], want[i]);
        }
    }

    void end() {
        if (wrong > 0) {
            System.out.println(wrong + " answers are not as due");
            System.exit(1);
        }
    }

    static void feed(OddPayments x, String text) {
        byte[] bytes = text.getBytes(StandardCharsets.ISO_8859_1);
        for (int i = 0; i < bytes.length; i += 8) {
            int n = Math.min(8, bytes.length - i);
            long w = 0;
            for (int k = 0; k < n; k++) {
                w = w << 8 | bytes[i + k] & 255;
            }
            x.feed(w, n);
        }
    }

    static int read(OddPayments x, String text) {
        feed(x, text);
        return x.rules();
    }
}
