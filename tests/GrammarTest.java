import java.util.Random;
import java.util.regex.Matcher;
import java.util.regex.Pattern;

/** Promise 33 and 36: texts by chance, held against patterns and against a slow reader of another kind. */
public final class GrammarTest {
    private static final Due DUE = new Due();
    private static final Random RANDOM = new Random(11);

    public static void main(String[] args) {
        String test = "[yktsnogdf][<=!+][0-9]{1,4}";
        Pattern warranty = Pattern.compile("(?:(?:" + test + "(?:&" + test + ")*)?>[bwhcv](?:[0-9]{0,4});)+");
        compare(0, warranty, "yktsnogdf<=!+0123&>bwhcv;", "y<1>b;k=2&s+3>w40;n=0>c;>v;");
        String e = "(?:[0-9]{1,5}|[qyxbr])";
        e = e + "(?:[-+*/]" + e + ")*";
        for (int open = 0; open < 6; open++) {
            String p = "(?:[0-9]{1,5}|[qyxbr]|\\(" + e + "\\))";
            e = p + "(?:[-+*/]" + p + ")*";
        }
        String band = e + "(?::" + e + ")?";
        compare(1, Pattern.compile(band + "(?:;" + band + ")*"), "qyxbr0123456()()()+-*/:;", "(q+1)*2:((r/3)-y);x:12345;b");
        values();
        DUE.end("GrammarTest");
    }

    private static void compare(int what, Pattern pattern, String bytes, String sound) {
        for (int run = 0; run < 3000; run++) {
            StringBuilder text = new StringBuilder(run % 3 == 0 ? "" : sound);
            int changes = run % 3 == 0 ? RANDOM.nextInt(12) : 1 + RANDOM.nextInt(4);
            for (int i = 0; i < changes; i++) {
                int at = RANDOM.nextInt(text.length() + 1);
                if (RANDOM.nextBoolean() && at < text.length()) {
                    text.deleteCharAt(at);
                } else {
                    text.insert(at, bytes.charAt(RANDOM.nextInt(bytes.length())));
                }
            }
            int fault = faultOf(pattern, text.toString());
            DUE.is(text.toString(), Due.text(new SnagBook(), what, 0, text.toString()), fault < 0 ? 0 : -100 - fault);
        }
    }

    private static int faultOf(Pattern pattern, String text) {
        for (int n = 1; n <= text.length(); n++) {
            Matcher m = pattern.matcher(text.substring(0, n));
            if (!m.matches() && !m.hitEnd()) {
                return n - 1;
            }
        }
        return pattern.matcher(text).matches() ? -1 : text.length();
    }

    private static void values() {
        for (int run = 0; run < 2000; run++) {
            SnagBook x = new SnagBook();
            x.home(0, 0, 0);
            x.kind(0, 1, 0);
            int[] facts = {1 + RANDOM.nextInt(3), RANDOM.nextInt(3), 0, 0, RANDOM.nextInt(100000)};
            x.key(0, facts[4]);
            for (int i = 0; i < facts[0]; i++) {
                x.fault(i, 0, 1, 0);
            }
            if (facts[1] > 0) {
                x.days(facts[1]);
            }
            String text = bands();
            if (text.length() > 160) {
                continue;
            }
            DUE.is(text, Due.text(x, 1, 0, text), 0);
            DUE.is(text + " of " + facts[4], x.free(0), Math.max(0, Math.min(facts[4], new Slow(text, facts).bands())));
        }
    }

    private static String bands() {
        StringBuilder s = new StringBuilder();
        int many = 1 + RANDOM.nextInt(3);
        for (int i = 0; i < many; i++) {
            s.append(i == 0 ? "" : ";").append(RANDOM.nextBoolean() ? sum(0) + ":" : "").append(sum(0));
        }
        return s.toString();
    }

    private static String sum(int open) {
        StringBuilder s = new StringBuilder(part(open));
        int more = RANDOM.nextInt(3);
        for (int i = 0; i < more; i++) {
            s.append("+-*/".charAt(RANDOM.nextInt(4))).append(part(open));
        }
        return s.toString();
    }

    private static String part(int open) {
        if (open < 6 && RANDOM.nextInt(4) == 0) {
            return "(" + sum(open + 1) + ")";
        }
        if (RANDOM.nextBoolean()) {
            return "" + "qyxbr".charAt(RANDOM.nextInt(5));
        }
        return "" + RANDOM.nextInt(RANDOM.nextBoolean() ? 4 : 100000);
    }

    /** Works a sound freeing out by descent. */
    private static final class Slow {
        private final String text;
        private final int[] facts;
        private int at;

        Slow(String text, int[] facts) {
            this.text = text;
            this.facts = facts;
        }

        int bands() {
            while (true) {
                int first = sum();
                boolean counts = true;
                if (next() == ':') {
                    at++;
                    counts = first != 0;
                    first = sum();
                }
                if (counts) {
                    return first;
                }
                if (next() != ';') {
                    return 0;
                }
                at++;
            }
        }

        private char next() {
            return at < text.length() ? text.charAt(at) : '.';
        }

        private int sum() {
            int value = part();
            while ("+-*/".indexOf(next()) >= 0) {
                char sign = text.charAt(at++);
                int right = part();
                value = sign == '+' ? value + right : sign == '-' ? value - right : sign == '*' ? value * right
                    : right == 0 ? 0 : value / right;
            }
            return value;
        }

        private int part() {
            char c = text.charAt(at++);
            if (c == '(') {
                int value = sum();
                at++;
                return value;
            }
            int name = "qyxbr".indexOf(c);
            if (name >= 0) {
                return facts[name];
            }
            int from = at - 1;
            while (Character.isDigit(next())) {
                at++;
            }
            return Integer.parseInt(text.substring(from, at));
        }
    }
}
