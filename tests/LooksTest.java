import java.math.BigInteger;
import java.util.Random;

/** Promises 38 to 42. */
public final class LooksTest {
    private static final Due DUE = new Due();
    private static final int NO = -2000000000;

    public static void main(String[] args) {
        doublesByHand();
        missedByHand();
        drawing();
        crews();
        boundsByHand();
        boundsByDraws();
        DUE.end("LooksTest");
    }

    private static SnagBook book() {
        SnagBook x = new SnagBook();
        for (int i = 0; i < 4; i++) {
            x.home(i, 0, 0);
        }
        x.kind(0, 1, 0);
        x.kind(1, 1, 0);
        return x;
    }

    private static void doublesByHand() {
        SnagBook x = book();
        DUE.is("doubles(0, 0, 0)", x.doubles(0, 0, 0), NO);
        DUE.is("doubles(-1, 0, 0)", x.doubles(-1, 0, 0), NO);
        DUE.is("doubles(10, 0, 0)", x.doubles(10, 0, 0), NO);
        DUE.is("doubles(0, -1, 0)", x.doubles(0, -1, 0), NO);
        DUE.is("doubles(0, 10, 0)", x.doubles(0, 10, 0), NO);
        DUE.is("doubles(0, 1, -1)", x.doubles(0, 1, -1), NO);
        DUE.is("doubles(0, 1, 6)", x.doubles(0, 1, 6), NO);
        for (int what = 0; what < 6; what++) {
            DUE.is("doubles(0, 9, " + what + ") of nothing", x.doubles(0, 9, what), 0);
        }
        x.fault(0, 0, 7, 3);
        x.fault(0, 0, 1, 3);
        x.fault(0, 0, 2, 4);
        x.fault(0, 0, 9, 4);
        x.fault(0, 1, 4, 4);
        x.fault(1, 0, 4, 3);
        x.fault(1, 0, 4, 3);
        x.fault(12, 0, 5, 3);
        x.fault(24, 0, 5, 4);
        x.fault(24, 0, 5, 10);
        x.fault(2, 0, 3, 5);
        x.key(0, 0);
        x.key(3, 0);
        x.fault(3, 0, 1, 4);
        x.fault(36, 0, 1, 3);
        x.days(1);
        x.fault(3, 0, 9, 3);
        x.fault(1, 0, 9, 4);
        x.fault(36, 0, 1, 4);
        int[] want = {1, 1, 1, 2, 6666, 5};
        int[] turned = {1, 1, 2, 1, 5000, -5};
        for (int what = 0; what < 6; what++) {
            DUE.is("doubles(3, 4, " + what + ")", x.doubles(3, 4, what), want[what]);
            DUE.is("doubles(4, 3, " + what + ")", x.doubles(4, 3, what), turned[what]);
        }
        x.voids(0);
        DUE.is("a VOID one was told all the same", x.doubles(3, 4, 5), 5);
        x.fault(12, 1, 1, 4);
        DUE.is("another home with both", x.doubles(3, 4, 0), 2);
        DUE.is("ALONE there", x.doubles(3, 4, 2), 2);
    }

    private static void missedByHand() {
        SnagBook x = book();
        x.fault(0, 0, 1, 0);
        x.fault(0, 0, 1, 1);
        x.fault(0, 1, 1, 1);
        x.fault(1, 0, 1, 1);
        DUE.is("two of three, the rest away", x.doubles(0, 1, 4), 6666);
        DUE.is("none", x.doubles(1, 0, 4), 0);
    }

    private static void drawing() {
        SnagBook x = book();
        DUE.is("draw(-1)", x.draw(-1), -1);
        DUE.is("draw(10)", x.draw(10), -1);
        DUE.is("draw(0) of none", x.draw(0), -4);
        for (int i = 0; i < 20; i++) {
            x.fault(i, 0, 1, 0);
            x.said(i, i % 2);
        }
        x.look(2, 0);
        x.look(4, 1);
        x.look(6, 0);
        x.said(6, 1);
        int[] odd = {1, 3, 5, 6, 7, 9, 11, 13, 15, 17, 19};
        int[] even = {0, 8, 10, 12, 14, 16, 18};
        int z = 1;
        for (int i = 0; i < 40; i++) {
            z = z * 1103515245 + 12345;
            int[] from = i % 3 == 0 ? odd : even;
            DUE.is("draw " + i, x.draw(i % 3 == 0 ? 1 : 0), from[(z >>> 8) % from.length]);
            DUE.is("draw of none keeps z", x.draw(5), -4);
        }
        int[] starts = {0, -1, Integer.MIN_VALUE, Integer.MAX_VALUE};
        for (int start : starts) {
            DUE.is("lots", x.lots(start), 1);
            z = start * 1103515245 + 12345;
            DUE.is("draw from " + start, x.draw(1), odd[(z >>> 8) % odd.length]);
        }
    }

    private static void crews() {
        SnagBook x = book();
        DUE.is("ofCrew(-1, 0)", x.ofCrew(-1, 0), -1);
        DUE.is("ofCrew(10, 0)", x.ofCrew(10, 0), -1);
        DUE.is("ofCrew(0, -1)", x.ofCrew(0, -1), -1);
        DUE.is("ofCrew(0, 4)", x.ofCrew(0, 4), -1);
        x.fault(0, 0, 1, 0);
        x.fault(1, 0, 1, 0);
        x.said(0, 2);
        x.look(0, 0);
        x.said(0, 2);
        x.look(0, 1);
        x.said(1, 2);
        x.look(1, 0);
        x.said(1, 3);
        x.days(1);
        x.fault(0, 1, 1, 0);
        x.fault(0, 1, 1, 0);
        x.fault(1, 1, 1, 0);
        x.voids(3);
        int[] two = {3, 3, 2, 2};
        int[] three = {1, 0, 0, 1};
        for (int what = 0; what < 4; what++) {
            DUE.is("ofCrew(2, " + what + ")", x.ofCrew(2, what), two[what]);
            DUE.is("ofCrew(3, " + what + ")", x.ofCrew(3, what), three[what]);
            DUE.is("ofCrew(4, " + what + ")", x.ofCrew(4, what), 0);
        }
    }

    private static void boundsByHand() {
        SnagBook x = book();
        DUE.is("bounds(-1, 1, 0)", x.bounds(-1, 1, 0), -1);
        DUE.is("bounds(10, 1, 0)", x.bounds(10, 1, 0), -1);
        DUE.is("bounds(0, 0, 0)", x.bounds(0, 0, 0), -1);
        DUE.is("bounds(0, 50, 0)", x.bounds(0, 50, 0), -1);
        DUE.is("bounds(0, 1, -1)", x.bounds(0, 1, -1), -1);
        DUE.is("bounds(0, 1, 2)", x.bounds(0, 1, 2), -1);
        DUE.is("none SAID", x.bounds(0, 1, 0), 0);
        DUE.is("none SAID", x.bounds(0, 1, 1), 0);
        for (int i = 0; i < 40; i++) {
            x.fault(0, 0, 1, 0);
            x.said(i, 0);
        }
        DUE.is("no LOOKS", x.bounds(0, 49, 0), 0);
        DUE.is("no LOOKS", x.bounds(0, 49, 1), 40);
        x.fault(0, 0, 1, 0);
        x.said(40, 0);
        DUE.is("41 SAID", x.bounds(0, 49, 0), -5);
        DUE.is("41 SAID", x.bounds(0, 49, 1), -5);
        DUE.is("41 SAID, wrong", x.bounds(0, 50, 1), -1);
        for (int good = 0; good < 2; good++) {
            x = book();
            for (int i = 0; i < 4; i++) {
                x.fault(0, 0, 1, 0);
                x.said(i, 0);
            }
            x.look(0, good);
            DUE.is("just 25 of 100", x.bounds(0, 25, good), good == 0 ? 1 : 3);
            DUE.is("less than 26 of 100", x.bounds(0, 26, good), 2);
        }
    }

    private static void boundsByDraws() {
        Random random = new Random(5);
        for (int run = 0; run < 60; run++) {
            SnagBook x = book();
            int all = run == 0 ? 40 : 1 + random.nextInt(40);
            int looks = run == 0 ? 20 : random.nextInt(all + 1);
            int found = 0;
            for (int i = 0; i < all; i++) {
                x.fault(0, 0, 1, 0);
                x.said(i, 6);
            }
            for (int i = 0; i < looks; i++) {
                int good = random.nextInt(3) == 0 ? 0 : 1;
                found += 1 - good;
                x.look(i, good);
            }
            int p = 1 + random.nextInt(49);
            int least = -1;
            int greatest = -1;
            for (int f = found; f <= all - looks + found; f++) {
                BigInteger more = BigInteger.ZERO;
                BigInteger fewer = BigInteger.ZERO;
                for (int i = 0; i <= looks; i++) {
                    BigInteger ways = choose(f, i).multiply(choose(all - f, looks - i));
                    more = i >= found ? more.add(ways) : more;
                    fewer = i <= found ? fewer.add(ways) : fewer;
                }
                BigInteger part = choose(all, looks).multiply(BigInteger.valueOf(p));
                BigInteger hundred = BigInteger.valueOf(100);
                least = least < 0 && more.multiply(hundred).compareTo(part) >= 0 ? f : least;
                greatest = fewer.multiply(hundred).compareTo(part) >= 0 ? f : greatest;
            }
            DUE.is("run " + run + " least", x.bounds(6, p, 0), least);
            DUE.is("run " + run + " greatest", x.bounds(6, p, 1), greatest);
        }
    }

    private static BigInteger choose(int n, int k) {
        if (k < 0 || k > n) {
            return BigInteger.ZERO;
        }
        BigInteger up = BigInteger.ONE;
        for (int i = 0; i < k; i++) {
            up = up.multiply(BigInteger.valueOf(n - i)).divide(BigInteger.valueOf(i + 1));
        }
        return up;
    }
}
