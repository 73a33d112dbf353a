import java.util.Arrays;

/**
 * Promises 2 to 45: every number that a call takes, too small, the least, the greatest and too large. What is not as
 * said is refused and changes nothing: the book is held against one that was not called.
 */
public final class RangesTest {
    private static final Due DUE = new Due();
    private static final int NO = -2000000000;
    private static final int TODAY = 43;
    private static final int LAST_FAULT = 7;
    private static final int[] FAULTS = {0, LAST_FAULT};
    private static final int[] HOMES = {0, 1};
    private static final int[] KINDS = {0, 2};
    private static final int[] TENS = {0, 9};
    private static final int[] DAYS = {0, 9999};
    private static final int[] ANY = null;
    private static int[] untouched;

    private interface Call {
        int on(SnagBook x, int[] a);
    }

    public static void main(String[] args) {
        untouched = Probe.usedUp(book());
        homes();
        faults();
        causes();
        gauges();
        diary();
        texts();
        looks();
        streets();
        DUE.end("RangesTest");
    }

    /** Each call with good numbers finds something here: faults in every state, a sinking home, a plan, texts. */
    private static SnagBook book() {
        SnagBook x = new SnagBook();
        x.home(105, 90, 2);
        x.home(799, 500, 9);
        x.kind(0, 10, 0);
        x.kind(1, 7, 2);
        x.kind(2, 5, 5);
        x.fault(0, 0, 1, 3);
        x.fault(1, 0, 2, 4);
        x.fault(2, 0, 3, 3);
        x.fault(3, 1, 4, 3);
        x.fault(14, 0, 4, 3);
        x.promise(1, 60);
        x.said(2, 3);
        int[] widths = {0, 1, 9};
        for (int width : widths) {
            x.read(3, width);
            x.days(1);
        }
        x.voids(4);
        x.key(0, 1000);
        Due.text(x, 0, 0, ">b2;");
        Due.text(x, 1, 0, "5");
        x.job(1);
        x.plan(3);
        x.days(40);
        x.fault(1, 2, 5, 10);
        x.fault(5, 2, 6, 10);
        x.fault(0, 0, 1, 10);
        x.job(1);
        Due.feed(x, ">w;");
        x.lots(77);
        return x;
    }

    private static void range(String name, Call call, int refusal, int[] good, int[]... ranges) {
        DUE.is(name + ": one range each", ranges.length, good.length);
        for (int i = 0; i < ranges.length; i++) {
            if (ranges[i] == ANY) {
                continue;
            }
            int least = ranges[i][0];
            int greatest = ranges[i][1];
            int[] bad = {least - 1, greatest + 1, Integer.MIN_VALUE, Integer.MAX_VALUE, -greatest - 2};
            for (int v : bad) {
                refused(name, call, refusal, with(good, i, v));
            }
            int[] edges = {least, greatest};
            for (int v : edges) {
                int[] a = with(good, i, v);
                DUE.is(name + Arrays.toString(a) + " is taken", call.on(book(), a) == refusal ? 0 : 1, 1);
            }
        }
    }

    private static void refused(String name, Call call, int refusal, int... a) {
        SnagBook x = book();
        DUE.is(name + Arrays.toString(a), call.on(x, a), refusal);
        boolean same = Arrays.equals(Probe.usedUp(x), untouched);
        DUE.is(name + Arrays.toString(a) + " changes nothing", same ? 1 : 0, 1);
    }

    private static int[] with(int[] good, int i, int v) {
        int[] a = good.clone();
        a[i] = v;
        return a;
    }

    private static int[] of(int... numbers) {
        return numbers;
    }

    private static void homes() {
        DUE.is("TODAY", book().count(3), TODAY);
        range("days", (x, a) -> x.days(a[0]), -1, of(5), of(1, 360));
        range("home", (x, a) -> x.home(a[0], a[1], a[2]), -1, of(5, 5, 5), of(0, 799), of(0, 999), TENS);
        range("key", (x, a) -> x.key(a[0], a[1]), -1, of(1, 5), HOMES, of(0, 99999));
        range("sell", (x, a) -> x.sell(a[0]), -1, of(0), HOMES);
        range("in", (x, a) -> x.in(a[0], a[1]), -1, of(0, 5), HOMES, of(0, 127));
        range("crew", (x, a) -> x.crew(a[0], a[1], a[2]), NO, of(0, 5, 5), HOMES, TENS, of(-1, 9));
        range("ofHome", (x, a) -> x.ofHome(a[0], a[1]), -1, of(0, 0), HOMES, of(0, 12));
    }

    private static void faults() {
        range("kind", (x, a) -> x.kind(a[0], a[1], a[2]), -1, of(5, 5, 5), TENS, of(1, 999), of(0, 7));
        range("fault", (x, a) -> x.fault(a[0], a[1], a[2], a[3]), -1, of(5, 1, 5, 5), of(0, 23), KINDS, of(1, 9), of(0, 10));
        range("promise", (x, a) -> x.promise(a[0], a[1]), -1, of(0, 50), FAULTS, of(TODAY, 9999));
        range("said", (x, a) -> x.said(a[0], a[1]), -1, of(0, 5), FAULTS, TENS);
        range("look", (x, a) -> x.look(a[0], a[1]), -1, of(2, 0), FAULTS, of(0, 1));
        range("voids", (x, a) -> x.voids(a[0]), -1, of(0), FAULTS);
        range("state", (x, a) -> x.state(a[0], a[1]), -1, of(0, 5), FAULTS, DAYS);
        range("ofFault", (x, a) -> x.ofFault(a[0], a[1]), -1, of(2, 1), FAULTS, of(0, 13));
        range("source", (x, a) -> x.source(a[0], a[1]), -1, of(0, TODAY), FAULTS, DAYS);
        range("damage", (x, a) -> x.damage(a[0]), -1, of(0), FAULTS);
        range("rule 0", (x, a) -> x.rule(0, a[0]), -1, of(5), of(0, 60));
        range("rule 1", (x, a) -> x.rule(1, a[0]), -1, of(5), of(0, 999));
        range("rule", (x, a) -> x.rule(a[0], a[1]), -1, of(0, 5), of(0, 1), ANY);
    }

    private static void causes() {
        range("joined", (x, a) -> x.joined(a[0], a[1], a[2], a[3]), -1, of(0, 1, 5, 0), KINDS, of(0, 30), DAYS, of(0, 2));
        range("chance", (x, a) -> x.chance(a[0], a[1], a[2]), -1, of(0, 1, 5), KINDS, of(0, 30), DAYS);
        range("cause", (x, a) -> x.cause(a[0], a[1], a[2]), -1, of(0, 5, 5), KINDS, DAYS, of(1, 9999));
        range("rivals", (x, a) -> x.rivals(a[0], a[1], a[2]), -1, of(0, 5, 5), KINDS, DAYS, of(1, 9999));
        // Ten of each sort but eight STREETS and one of LOW ground: the ends of each sort.
        int[] groups = {0, 7, 10, 19, 20, 29, 30};
        for (int group : groups) {
            DUE.is("joined of group " + group, book().joined(0, group, 5, 0), 1);
            DUE.is("chance of group " + group, book().chance(0, group, 5) > 0 ? 1 : 0, 1);
        }
        int[] none = {8, 9, 31, 37, 39};
        for (int group : none) {
            refused("joined", (x, a) -> x.joined(a[0], a[1], a[2], a[3]), -1, 0, group, 5, 0);
            refused("chance", (x, a) -> x.chance(a[0], a[1], a[2]), -1, 0, group, 5);
        }
    }

    /** FAULT 3 alone is a CRACK, with three READINGS. */
    private static void gauges() {
        range("read", (x, a) -> x.read(a[0], a[1]), -1, of(3, 5), of(3, 3), of(0, 9999));
        range("gauge", (x, a) -> x.gauge(a[0], a[1]), -1, of(3, 5), of(3, 3), DAYS);
        range("pace", (x, a) -> x.pace(a[0], a[1]), NO, of(3, 0), of(3, 3), of(0, 1));
        int[] noCracks = {0, 4, LAST_FAULT, LAST_FAULT + 1};
        for (int fault : noCracks) {
            refused("read", (x, a) -> x.read(a[0], a[1]), -1, fault, 5);
            refused("gauge", (x, a) -> x.gauge(a[0], a[1]), -1, fault, 5);
            refused("pace", (x, a) -> x.pace(a[0], a[1]), NO, fault, 0);
        }
        range("sinking", (x, a) -> x.sinking(a[0], a[1]), -1, of(1, 0), of(0, 7), of(0, 2));
    }

    private static void diary() {
        range("men", (x, a) -> x.men(a[0], a[1]), -1, of(0, 5), TENS, TENS);
        range("job", (x, a) -> x.job(a[0]), -1, of(1), FAULTS);
        range("plan", (x, a) -> x.plan(a[0]), -1, of(5), of(1, 14));
        range("planned", (x, a) -> x.planned(a[0]), -1, of(0), of(0, 0));
    }

    private static void texts() {
        range("feed", (x, a) -> x.feed(a[0], a[1]), -1, of(1, 5), of(1, 4), ANY);
        range("text", (x, a) -> x.text(a[0], a[1]), -1, of(0, 5), of(0, 1), DAYS);
        range("inForce", (x, a) -> x.inForce(a[0], a[1], a[2]), -1, of(0, 0, 5), of(0, 1), of(0, 0), DAYS);
        refused("inForce", (x, a) -> x.inForce(a[0], a[1], a[2]), -1, 0, 2, 5);
        range("judge", (x, a) -> x.judge(a[0], a[1]), -1, of(LAST_FAULT, 0), FAULTS, of(0, 3));
        range("free", (x, a) -> x.free(a[0]), -1, of(0), HOMES);
        range("take", (x, a) -> x.take(a[0]), -1, of(0), FAULTS);
        DUE.is("judge of a line", book().judge(LAST_FAULT, 3), 0);
    }

    private static void looks() {
        range("doubles", (x, a) -> x.doubles(a[0], a[1], a[2]), NO, of(3, 4, 0), TENS, TENS, of(0, 5));
        for (int eye = 0; eye < 10; eye++) {
            refused("doubles of one and the same", (x, a) -> x.doubles(a[0], a[1], a[2]), NO, eye, eye, 0);
        }
        range("draw", (x, a) -> x.draw(a[0]), -1, of(3), TENS);
        range("ofCrew", (x, a) -> x.ofCrew(a[0], a[1]), -1, of(3, 0), TENS, of(0, 3));
        range("bounds", (x, a) -> x.bounds(a[0], a[1], a[2]), -1, of(3, 10, 0), TENS, of(1, 49), of(0, 1));
        int[] lots = {Integer.MIN_VALUE, -1, 0, 1, Integer.MAX_VALUE};
        for (int z : lots) {
            DUE.is("lots(" + z + ")", book().lots(z), 1);
        }
    }

    private static void streets() {
        range("worst", (x, a) -> x.worst(a[0], a[1]), -1, of(0, 5), of(0, 7), DAYS);
        range("weight", (x, a) -> x.weight(a[0], a[1]), -1, of(0, 5), of(0, 7), DAYS);
        range("count", (x, a) -> x.count(a[0]), -1, of(0), of(0, 11));
    }
}
