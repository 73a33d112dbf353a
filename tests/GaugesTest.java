/** Promises 24 to 27. */
public final class GaugesTest {
    private static final Due DUE = new Due();

    public static void main(String[] args) {
        readings();
        paces();
        drying();
        ground();
        upToADay();
        sinking();
        DUE.end("GaugesTest");
    }

    private static SnagBook cracked() {
        SnagBook x = new SnagBook();
        x.home(250, 0, 0);
        x.kind(0, 1, 2);
        x.kind(0, 1, 5);
        x.fault(0, 0, 1, 0);
        x.fault(0, 1, 1, 0);
        return x;
    }

    /** A crack with these readings: days and widths by turns, the days counted from the one ahead. */
    private static SnagBook read(int... daysAndWidths) {
        SnagBook x = cracked();
        for (int i = 0; i < daysAndWidths.length; i += 2) {
            int left = daysAndWidths[i];
            while (left > 0) {
                x.days(Math.min(left, 360));
                left -= 360;
            }
            x.read(0, daysAndWidths[i + 1]);
        }
        return x;
    }

    private static int says(int... daysAndWidths) {
        return read(daysAndWidths).gauge(0, 9999);
    }

    private static void readings() {
        SnagBook x = cracked();
        DUE.is("read(2, 0)", x.read(2, 0), -1);
        DUE.is("read(-1, 0)", x.read(-1, 0), -1);
        DUE.is("read of no CRACK", x.read(1, 0), -1);
        DUE.is("read(0, -1)", x.read(0, -1), -1);
        DUE.is("read(0, 10000)", x.read(0, 10000), -1);
        DUE.is("read(0, 9999)", x.read(0, 9999), 1);
        DUE.is("read TODAY", x.read(0, 0), -3);
        DUE.is("read TODAY, wrong", x.read(0, -1), -1);
        for (int i = 2; i <= 12; i++) {
            x.days(1);
            DUE.is("read " + i, x.read(0, 0), i);
        }
        DUE.is("read TODAY of a full one", x.read(0, 0), -3);
        x.days(1);
        DUE.is("the 13th", x.read(0, 0), -2);
        x.voids(0);
        DUE.is("gauge(1, 0)", x.gauge(1, 0), -1);
        DUE.is("gauge(2, 0)", x.gauge(2, 0), -1);
        DUE.is("gauge(0, -1)", x.gauge(0, -1), -1);
        DUE.is("gauge(0, 10000)", x.gauge(0, 10000), -1);
    }

    private static void paces() {
        SnagBook x = read(0, 10, 3, 20, 3, 10, 7, 9999, 360, 0);
        int no = -2000000000;
        DUE.is("pace(0, 0)", x.pace(0, 0), 3333);
        DUE.is("pace(0, 1)", x.pace(0, 1), -3333);
        DUE.is("pace(0, 2)", x.pace(0, 2), 1427000);
        DUE.is("pace(0, 3)", x.pace(0, 3), -27775);
        DUE.is("pace(0, 4)", x.pace(0, 4), no);
        DUE.is("pace(0, -1)", x.pace(0, -1), no);
        DUE.is("pace(0, MAX)", x.pace(0, Integer.MAX_VALUE), no);
        DUE.is("pace(1, 0)", x.pace(1, 0), no);
        DUE.is("pace(2, 0)", x.pace(2, 0), no);
        DUE.is("pace of one reading", read(0, 1).pace(0, 0), no);
        DUE.is("pace of none", cracked().pace(0, 0), no);
    }

    private static void drying() {
        DUE.is("just a fourth", says(0, 0, 10, 40, 10, 50), 1);
        DUE.is("more than a fourth", says(0, 0, 10, 40, 10, 51), 0);
        DUE.is("two readings", says(0, 0, 10, 40), 0);
        DUE.is("no readings", says(), 0);
        DUE.is("still all the time", says(0, 7, 10, 7, 10, 7), 1);
        DUE.is("a pace below 0", says(0, 0, 10, 40, 10, 39, 10, 39), 0);
        DUE.is("a pace greater than the one ahead", says(0, 0, 10, 80, 10, 90, 10, 110, 10, 110), 0);
        DUE.is("like paces among them", says(0, 0, 10, 80, 10, 100, 10, 120), 1);
    }

    private static void ground() {
        DUE.is("the last is greater and above 0", says(0, 0, 10, 10, 10, 30), 2);
        DUE.is("the last is greater, but 0", says(0, 30, 10, 10, 10, 10), 0);
        DUE.is("the last is greater, but below 0", says(0, 90, 10, 10, 10, 9), 0);
        DUE.is("the last is not greater", says(0, 0, 10, 10, 10, 20), 0);
        DUE.is("up in WET, down in DRY", says(0, 0, 10, 50, 170, 20), 2);
        DUE.is("down in WET, up in DRY, slower", says(0, 50, 10, 60, 10, 20, 160, 30), 2);
        DUE.is("up and down in WET alone", says(0, 0, 10, 50, 169, 20), 0);
        DUE.is("DRY ends with day 359", says(170, 0, 10, 50, 179, 20), 0);
        DUE.is("WET comes with day 360", says(170, 0, 10, 50, 180, 20), 2);
        DUE.is("0 in DRY is no sign", says(0, 0, 10, 50, 10, 30, 160, 30), 0);
        DUE.is("0 in WET is not up", says(0, 50, 10, 50, 180, 20), 0);
        DUE.is("0 in WET is not down", says(0, 0, 10, 10, 10, 10, 160, 30), 0);
    }

    private static void upToADay() {
        SnagBook x = read(5, 0, 10, 10, 10, 30, 10, 31);
        DUE.is("up to 4", x.gauge(0, 4), 0);
        DUE.is("up to 24", x.gauge(0, 24), 0);
        DUE.is("up to 25", x.gauge(0, 25), 2);
        DUE.is("up to 34", x.gauge(0, 34), 2);
        DUE.is("up to 35", x.gauge(0, 35), 0);
    }

    private static void sinking() {
        SnagBook x = new SnagBook();
        x.home(250, 0, 0);
        x.home(207, 0, 0);
        x.home(299, 0, 0);
        x.home(301, 0, 0);
        x.home(200, 0, 0);
        x.kind(0, 1, 2);
        for (int i = 0; i < 5; i++) {
            x.fault(12 * i, 0, 1, 0);
        }
        x.fault(1, 0, 1, 0);
        DUE.is("none", x.sinking(2, 0), 0);
        DUE.is("no least", x.sinking(2, 1), -1);
        DUE.is("no greatest", x.sinking(2, 2), -1);
        int[] widths = {0, 1, 9};
        for (int width : widths) {
            for (int fault = 0; fault < 6; fault++) {
                x.read(fault, fault == 4 ? 0 : width);
            }
            x.days(1);
        }
        DUE.is("homes", x.sinking(2, 0), 3);
        DUE.is("least", x.sinking(2, 1), 7);
        DUE.is("greatest", x.sinking(2, 2), 99);
        DUE.is("another street", x.sinking(3, 1), 1);
        x.voids(2);
        DUE.is("VOID", x.sinking(2, 2), 50);
        x.said(1, 0);
        DUE.is("SAID", x.sinking(2, 0), 2);
        x.look(1, 1);
        DUE.is("TRULY CLOSED", x.sinking(2, 1), 50);
        x.voids(0);
        DUE.is("another crack of the home", x.sinking(2, 0), 1);
        DUE.is("sinking(-1, 0)", x.sinking(-1, 0), -1);
        DUE.is("sinking(8, 0)", x.sinking(8, 0), -1);
        DUE.is("sinking(0, -1)", x.sinking(0, -1), -1);
        DUE.is("sinking(0, 3)", x.sinking(0, 3), -1);
    }
}
