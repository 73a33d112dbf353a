import java.nio.charset.StandardCharsets;

/** What the tests share: answers held against those that are due, and texts put on the tape. */
final class Due {
    private int wrong;

    void is(String call, int got, int want) {
        if (got != want) {
            wrong++;
            System.out.println(call + " answered " + got + ", due is " + want);
        }
    }

    /** Puts a whole text on the tape; answers what the last feed did. */
    static int feed(SnagBook x, String text) {
        byte[] bytes = text.getBytes(StandardCharsets.ISO_8859_1);
        int answer = 0;
        for (int i = 0; i < bytes.length; i += 4) {
            int n = Math.min(4, bytes.length - i);
            int v = 0;
            for (int j = 0; j < n; j++) {
                v |= (bytes[i + j] & 255) << (8 * j);
            }
            answer = x.feed(n, v);
        }
        return answer;
    }

    static int text(SnagBook x, int what, int day, String text) {
        feed(x, text);
        return x.text(what, day);
    }

    void end(String name) {
        System.out.println(name + (wrong == 0 ? ": all answers are as due" : ": " + wrong + " answers are not as due"));
        if (wrong != 0) {
            System.exit(1);
        }
    }
}
