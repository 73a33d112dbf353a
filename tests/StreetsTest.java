/** Promises 43 to 45. */
public final class StreetsTest {
    private static final Due DUE = new Due();

    public static void main(String[] args) {
        weights();
        counts();
        DUE.end("StreetsTest");
    }

    private static void weights() {
        SnagBook x = new SnagBook();
        int[] streets = {2, 5, 7, 5};
        for (int street : streets) {
            x.home(100 * street, 0, 0);
        }
        x.kind(0, 999, 0);
        x.days(1);
        x.fault(0, 0, 4, 0);
        x.fault(12, 0, 3, 0);
        x.fault(36, 0, 2, 0);
        x.days(1);
        x.fault(24, 0, 9, 0);
        x.voids(1);
        x.said(0, 0);
        x.days(1);
        x.look(0, 1);
        int[][] weights = {{0, 0, 0, 0, 0, 0, 0, 0}, {0, 0, 4, 0, 0, 5, 0, 0}, {0, 0, 4, 0, 0, 2, 0, 9}, {0, 0, 0, 0, 0, 2, 0, 9}};
        int[][] orders = {{0, 1, 2, 3, 4, 5, 6, 7}, {5, 2, 0, 1, 3, 4, 6, 7}, {7, 2, 5, 0, 1, 3, 4, 6}, {7, 5, 0, 1, 2, 3, 4, 6}};
        for (int day = 0; day < 4; day++) {
            for (int i = 0; i < 8; i++) {
                DUE.is("weight(" + i + ", " + day + ")", x.weight(i, day), weights[day][i]);
                DUE.is("worst(" + i + ", " + day + ")", x.worst(i, day), orders[day][i]);
            }
        }
        DUE.is("weight(7, 9999)", x.weight(7, 9999), 9);
        DUE.is("worst(0, 9999)", x.worst(0, 9999), 7);
        DUE.is("weight(-1, 0)", x.weight(-1, 0), -1);
        DUE.is("weight(8, 0)", x.weight(8, 0), -1);
        DUE.is("weight(0, -1)", x.weight(0, -1), -1);
        DUE.is("weight(0, 10000)", x.weight(0, 10000), -1);
        DUE.is("worst(-1, 0)", x.worst(-1, 0), -1);
        DUE.is("worst(8, 0)", x.worst(8, 0), -1);
        DUE.is("worst(0, -1)", x.worst(0, -1), -1);
        DUE.is("worst(0, 10000)", x.worst(0, 10000), -1);
    }

    private static void counts() {
        SnagBook x = new SnagBook();
        x.home(0, 0, 0);
        x.home(1, 0, 0);
        x.home(2, 0, 0);
        x.kind(0, 5, 0);
        x.kind(0, 5, 0);
        for (int i = 0; i < 4; i++) {
            x.fault(12 * i % 36, 0, 1, 0);
        }
        x.days(6);
        x.key(0, 100);
        x.key(1, 1000);
        Due.text(x, 0, 9, ">b;");
        Due.text(x, 1, 0, "y+1");
        Due.text(x, 1, 0, "y+2");
        Due.text(x, 1, 0, "y+3");
        x.promise(2, 9);
        x.job(2);
        x.free(0);
        x.free(1);
        x.take(0);
        x.take(1);
        Due.feed(x, "abcde");
        int[] want = {3, 2, 4, 6, 1, 3, 5, 1, 1084, 6, 10, 2};
        for (int what = 0; what < want.length; what++) {
            DUE.is("count(" + what + ")", x.count(what), want[what]);
        }
        DUE.is("count(-1)", x.count(-1), -1);
        DUE.is("count(12)", x.count(12), -1);
        DUE.is("count(MIN)", x.count(Integer.MIN_VALUE), -1);
    }
}
