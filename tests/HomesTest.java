/** Promises 2 to 8. */
public final class HomesTest {
    private static final Due DUE = new Due();

    public static void main(String[] args) {
        days();
        homes();
        keys();
        sales();
        weeks();
        crews();
        ofHome();
        DUE.end("HomesTest");
    }

    private static void days() {
        SnagBook x = new SnagBook();
        DUE.is("days(0)", x.days(0), -1);
        DUE.is("days(-1)", x.days(-1), -1);
        DUE.is("days(361)", x.days(361), -1);
        DUE.is("days(MAX)", x.days(Integer.MAX_VALUE), -1);
        DUE.is("days(1)", x.days(1), 1);
        DUE.is("days(360)", x.days(360), 361);
        for (int i = 0; i < 26; i++) {
            x.days(360);
        }
        DUE.is("count(3)", x.count(3), 9721);
        DUE.is("days(279) beyond", x.days(279), -1);
        DUE.is("days(278)", x.days(278), 9999);
        DUE.is("days(1) beyond", x.days(1), -1);
        DUE.is("count(3)", x.count(3), 9999);
    }

    private static void homes() {
        SnagBook x = new SnagBook();
        DUE.is("home(-1, 0, 0)", x.home(-1, 0, 0), -1);
        DUE.is("home(800, 0, 0)", x.home(800, 0, 0), -1);
        DUE.is("home(0, -1, 0)", x.home(0, -1, 0), -1);
        DUE.is("home(0, 1000, 0)", x.home(0, 1000, 0), -1);
        DUE.is("home(0, 0, -1)", x.home(0, 0, -1), -1);
        DUE.is("home(0, 0, 10)", x.home(0, 0, 10), -1);
        DUE.is("count(0)", x.count(0), 0);
        DUE.is("home(799, 999, 9)", x.home(799, 999, 9), 0);
        for (int i = 1; i < 40; i++) {
            DUE.is("home " + i, x.home(0, 0, 0), i);
        }
        DUE.is("home 40", x.home(0, 0, 0), -2);
        DUE.is("home 40, wrong", x.home(0, 0, 10), -1);
        DUE.is("count(0)", x.count(0), 40);
    }

    private static void keys() {
        SnagBook x = new SnagBook();
        x.home(0, 0, 0);
        x.home(1, 0, 0);
        DUE.is("key(2, 0)", x.key(2, 0), -1);
        DUE.is("key(-1, 0)", x.key(-1, 0), -1);
        DUE.is("key(0, -1)", x.key(0, -1), -1);
        DUE.is("key(0, 100000)", x.key(0, 100000), -1);
        DUE.is("ofHome(0, 4)", x.ofHome(0, 4), -1);
        x.days(3);
        DUE.is("key(0, 99999)", x.key(0, 99999), 1);
        DUE.is("key(1, 0)", x.key(1, 0), 1);
        DUE.is("key(0, 5) again", x.key(0, 5), -3);
        DUE.is("key(0, -5) again, wrong", x.key(0, -5), -1);
        DUE.is("ofHome(0, 4)", x.ofHome(0, 4), 3);
        DUE.is("ofHome(0, 10)", x.ofHome(0, 10), 99999);
        DUE.is("count(8)", x.count(8), 99999);
        DUE.is("count(11)", x.count(11), 2);
    }

    private static void sales() {
        SnagBook x = new SnagBook();
        x.home(0, 0, 0);
        DUE.is("sell(1)", x.sell(1), -1);
        DUE.is("sell(-1)", x.sell(-1), -1);
        DUE.is("sell(0) without a key", x.sell(0), -3);
        x.key(0, 0);
        for (int i = 1; i <= 20; i++) {
            DUE.is("sell(0)", x.sell(0), i);
            x.days(1);
        }
        DUE.is("sell(0), the 21st", x.sell(0), -2);
        DUE.is("ofHome(0, 5)", x.ofHome(0, 5), 20);
    }

    private static void weeks() {
        SnagBook x = new SnagBook();
        x.home(0, 0, 0);
        DUE.is("in(1, 0)", x.in(1, 0), -1);
        DUE.is("in(0, -1)", x.in(0, -1), -1);
        DUE.is("in(0, 128)", x.in(0, 128), -1);
        DUE.is("in(0, 0)", x.in(0, 0), 127);
        DUE.is("in(0, 127)", x.in(0, 127), 0);
        DUE.is("in(0, 5)", x.in(0, 5), 127);
        DUE.is("in(0, 6)", x.in(0, 6), 5);
    }

    private static void crews() {
        SnagBook x = new SnagBook();
        x.home(0, 0, 0);
        int no = -2000000000;
        DUE.is("crew(1, 0, 0)", x.crew(1, 0, 0), no);
        DUE.is("crew(-1, 0, 0)", x.crew(-1, 0, 0), no);
        DUE.is("crew(0, 10, 0)", x.crew(0, 10, 0), no);
        DUE.is("crew(0, -1, 0)", x.crew(0, -1, 0), no);
        DUE.is("crew(0, 0, 10)", x.crew(0, 0, 10), no);
        DUE.is("crew(0, 0, -2)", x.crew(0, 0, -2), no);
        DUE.is("crew(0, 9, 9)", x.crew(0, 9, 9), -1);
        DUE.is("crew(0, 9, 0)", x.crew(0, 9, 0), 9);
        DUE.is("crew(0, 9, -1)", x.crew(0, 9, -1), 0);
        DUE.is("crew(0, 9, 3)", x.crew(0, 9, 3), -1);
        DUE.is("crew(0, 8, 3)", x.crew(0, 8, 3), -1);
    }

    private static void ofHome() {
        SnagBook x = new SnagBook();
        DUE.is("ofHome(0, 0) of none", x.ofHome(0, 0), -1);
        x.home(0, 0, 0);
        x.home(745, 678, 3);
        DUE.is("STREET", x.ofHome(1, 0), 7);
        DUE.is("PLOT", x.ofHome(1, 1), 45);
        DUE.is("GROUND", x.ofHome(1, 2), 678);
        DUE.is("BATCH", x.ofHome(1, 3), 3);
        DUE.is("ofHome(1, -1)", x.ofHome(1, -1), -1);
        DUE.is("ofHome(1, 13)", x.ofHome(1, 13), -1);
        x.kind(0, 10, 0);
        for (int i = 0; i < 5; i++) {
            x.fault(12 + i, 0, 2, 1);
        }
        x.fault(0, 0, 1, 1);
        DUE.is("FAULTS", x.ofHome(1, 6), 5);
        DUE.is("left", x.ofHome(1, 7), 5);
        x.voids(0);
        x.said(1, 4);
        DUE.is("left, one said", x.ofHome(1, 7), 4);
        x.look(1, 0);
        x.said(1, 5);
        x.look(1, 0);
        x.said(2, 4);
        x.look(2, 0);
        DUE.is("FALSELY CLOSED", x.ofHome(1, 8), 3);
        x.said(1, 5);
        x.look(1, 1);
        DUE.is("left, one closed", x.ofHome(1, 7), 3);
        DUE.is("FALSELY CLOSED", x.ofHome(1, 8), 3);
        DUE.is("FALSELY CLOSED elsewhere", x.ofHome(0, 8), 0);
        x.promise(3, 2);
        x.promise(4, 2);
        x.promise(2, 1);
        x.days(2);
        DUE.is("BROKEN, one past", x.ofHome(1, 9), 1);
        x.promise(2, 2);
        DUE.is("BROKEN stays", x.ofHome(1, 9), 1);
        x.said(3, 0);
        x.days(1);
        DUE.is("BROKEN, two more", x.ofHome(1, 9), 3);
        x.key(1, 500);
        DUE.is("KEPT BACK", x.ofHome(1, 10), 500);
        DUE.is("take(4)", x.take(4), 20);
        Due.text(x, 1, 0, "7");
        DUE.is("free(1)", x.free(1), 7);
        DUE.is("KEPT BACK", x.ofHome(1, 10), 473);
        DUE.is("FREED", x.ofHome(1, 11), 7);
        DUE.is("TAKEN", x.ofHome(1, 12), 20);
        DUE.is("BROKEN ones stay by TAKEN", x.ofHome(1, 9), 3);
    }
}
