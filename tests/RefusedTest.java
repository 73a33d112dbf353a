import java.util.Arrays;
import java.util.function.Consumer;
import java.util.function.ToIntFunction;

/**
 * The refusals that are not of a wrong number: STATE, FULL, NOT and BIG of each promise that names one, NONE ahead of
 * them where both would do, and that what is refused changes nothing.
 */
public final class RefusedTest {
    private static final Due DUE = new Due();
    private static final int NONE = -1;
    private static final int FULL = -2;
    private static final int STATE = -3;
    private static final int NOT = -4;
    private static final int BIG = -5;
    /** One FAULT in each state, by its number. */
    private static final int OPEN = 0;
    private static final int PROMISED = 1;
    private static final int SAID = 2;
    private static final int CLOSED = 3;
    private static final int VOID = 4;
    private static final int TAKEN = 5;

    public static void main(String[] args) {
        homes();
        tables();
        states();
        thirtyStates();
        takes();
        gauges();
        diary();
        tape();
        shelves();
        notAndBig();
        DUE.end("RefusedTest");
    }

    private static SnagBook states(SnagBook x) {
        x.home(0, 0, 0);
        x.home(1, 0, 0);
        x.kind(0, 10, 0);
        x.kind(1, 10, 2);
        x.days(3);
        for (int i = 0; i < 6; i++) {
            x.fault(i, 0, 1, 0);
        }
        x.fault(6, 1, 1, 0);
        x.promise(PROMISED, 9);
        x.said(SAID, 1);
        x.said(CLOSED, 1);
        x.look(CLOSED, 1);
        x.voids(VOID);
        x.days(1);
        x.key(0, 1000);
        x.take(TAKEN);
        return x;
    }

    private static void refused(String name, Consumer<SnagBook> ready, ToIntFunction<SnagBook> call, int want) {
        SnagBook one = states(new SnagBook());
        SnagBook other = states(new SnagBook());
        ready.accept(one);
        ready.accept(other);
        DUE.is(name, call.applyAsInt(one), want);
        boolean same = Arrays.equals(Probe.usedUp(one), Probe.usedUp(other));
        DUE.is(name + " changes nothing", same ? 1 : 0, 1);
    }

    private static void refused(String name, ToIntFunction<SnagBook> call, int want) {
        refused(name, x -> { }, call, want);
    }

    private static void homes() {
        refused("4: the key was given, on another DAY", x -> x.days(5), x -> x.key(0, 77), STATE);
        refused("4: NONE is named ahead of STATE", x -> x.key(0, 100000), NONE);
        refused("5: no key was given", x -> x.sell(1), STATE);
        Consumer<SnagBook> twenty = x -> {
            for (int i = 1; i <= 20; i++) {
                DUE.is("5: sale " + i, x.sell(0), i);
            }
        };
        refused("5: the 21st sale", twenty, x -> x.sell(0), FULL);
        refused("36: no key was given", x -> x.free(1), STATE);
    }

    private static void tables() {
        Consumer<SnagBook> homes = x -> {
            for (int i = 2; i < 40; i++) {
                DUE.is("3: home " + i, x.home(799, 999, 9), i);
            }
        };
        refused("3: the 41st home", homes, x -> x.home(0, 0, 0), FULL);
        refused("3: NONE is named ahead of FULL", homes, x -> x.home(800, 0, 0), NONE);
        Consumer<SnagBook> kinds = x -> {
            for (int i = 2; i < 20; i++) {
                DUE.is("9: kind " + i, x.kind(9, 999, 7), i);
            }
        };
        refused("9: the 21st kind", kinds, x -> x.kind(0, 1, 0), FULL);
        refused("9: NONE is named ahead of FULL", kinds, x -> x.kind(0, 0, 0), NONE);
        Consumer<SnagBook> faults = x -> {
            for (int i = 7; i < 200; i++) {
                DUE.is("10: fault " + i, x.fault(23, 1, 9, 10), i);
            }
        };
        refused("10: the 201st fault", faults, x -> x.fault(0, 0, 1, 0), FULL);
        refused("10: NONE is named ahead of FULL", faults, x -> x.fault(0, 2, 1, 0), NONE);
    }

    private static void states() {
        int[] ended = {SAID, CLOSED, VOID, TAKEN};
        for (int f : ended) {
            refused("11: promise of " + f, x -> x.promise(f, 20), STATE);
            refused("11: NONE is named ahead of STATE, " + f, x -> x.promise(f, 3), NONE);
            refused("12: said of " + f, x -> x.said(f, 2), STATE);
            refused("12: NONE is named ahead of STATE, " + f, x -> x.said(f, 10), NONE);
            refused("14: voids of " + f, x -> x.voids(f), STATE);
        }
        int[] notSaid = {OPEN, PROMISED, CLOSED, VOID, TAKEN};
        for (int f : notSaid) {
            refused("13: look of " + f, x -> x.look(f, 1), STATE);
            refused("13: a bad look of " + f, x -> x.look(f, 0), STATE);
            refused("13: NONE is named ahead of STATE, " + f, x -> x.look(f, 2), NONE);
        }
        int[] waiting = {OPEN, PROMISED};
        for (int f : waiting) {
            DUE.is("11: promise of " + f, states(new SnagBook()).promise(f, 20), 1);
            DUE.is("12: said of " + f, states(new SnagBook()).said(f, 2), 1);
            DUE.is("14: voids of " + f, states(new SnagBook()).voids(f), 1);
        }
        DUE.is("13: look of a SAID one", states(new SnagBook()).look(SAID, 1), 1);
    }

    /** The first STATE is the telling, so 29 more have room. */
    private static void thirtyStates() {
        Consumer<SnagBook> open = x -> promises(x, OPEN, 29);
        refused("11: the 31st STATE", open, x -> x.promise(OPEN, 20), FULL);
        refused("12: the 31st STATE", open, x -> x.said(OPEN, 1), FULL);
        refused("14: the 31st STATE", open, x -> x.voids(OPEN), FULL);
        refused("37: it has 30 STATES", open, x -> x.take(OPEN), STATE);
        refused("11: NONE is named ahead of FULL", open, x -> x.promise(OPEN, 3), NONE);
        refused("12: NONE is named ahead of FULL", open, x -> x.said(OPEN, 10), NONE);
        refused("13: STATE is named ahead of FULL", open, x -> x.look(OPEN, 1), STATE);
        Consumer<SnagBook> said = x -> {
            promises(x, OPEN, 28);
            DUE.is("12: the 30th STATE", x.said(OPEN, 1), 1);
        };
        refused("13: the 31st STATE", said, x -> x.look(OPEN, 1), FULL);
        refused("13: the 31st STATE", said, x -> x.look(OPEN, 0), FULL);
        refused("13: NONE is named ahead of FULL", said, x -> x.look(OPEN, 2), NONE);
        refused("11: STATE is named ahead of FULL", said, x -> x.promise(OPEN, 20), STATE);
        refused("12: STATE is named ahead of FULL", said, x -> x.said(OPEN, 1), STATE);
        refused("14: STATE is named ahead of FULL", said, x -> x.voids(OPEN), STATE);
        Consumer<SnagBook> last = x -> promises(x, OPEN, 28);
        SnagBook x = states(new SnagBook());
        last.accept(x);
        DUE.is("14: the 30th STATE", x.voids(OPEN), 1);
        x = states(new SnagBook());
        last.accept(x);
        DUE.is("37: the 30th STATE", x.take(OPEN), 10);
        x = states(new SnagBook());
        promises(x, OPEN, 27);
        x.said(OPEN, 1);
        DUE.is("13: the 30th STATE", x.look(OPEN, 0), 1);
    }

    private static void promises(SnagBook x, int fault, int many) {
        for (int i = 0; i < many; i++) {
            DUE.is("11: STATE " + (i + 2), x.promise(fault, 10), 1);
        }
    }

    private static void takes() {
        int[] ended = {SAID, CLOSED, VOID, TAKEN};
        for (int f : ended) {
            refused("37: take of " + f, x -> x.take(f), STATE);
        }
        DUE.is("37: take of an OPEN one", states(new SnagBook()).take(OPEN), 10);
        DUE.is("37: take of a PROMISED one", states(new SnagBook()).take(PROMISED), 10);
        String[] others = {">w;", ">h;", ">v;", ">c;", "s=9>b;"};
        for (String text : others) {
            Consumer<SnagBook> ready = x -> {
                Due.text(x, 0, 0, text);
                x.crew(0, 0, 4);
                x.days(1);
                DUE.is("10: fault", x.fault(0, 0, 1, 0), 7);
            };
            refused("37: the builder does not pay by " + text, ready, x -> x.take(7), STATE);
        }
        Consumer<SnagBook> behind = x -> {
            x.days(1);
            x.fault(0, 0, 1, 0);
        };
        refused("37: no WARRANTY, the owner pays", behind, x -> x.take(7), STATE);
        Consumer<SnagBook> little = x -> {
            x.fault(12, 0, 9, 0);
            x.days(1);
            x.key(1, 89);
        };
        refused("37: a coin too little is KEPT BACK", little, x -> x.take(7), STATE);
        SnagBook x = states(new SnagBook());
        x.fault(12, 0, 9, 0);
        x.days(1);
        x.key(1, 90);
        DUE.is("37: just so much is KEPT BACK", x.take(7), 90);
        DUE.is("8: nothing is left", x.ofHome(1, 10), 0);
        Consumer<SnagBook> noKey = b -> b.fault(12, 0, 9, 0);
        refused("37: no key, so nothing is KEPT BACK", noKey, b -> b.take(7), STATE);
    }

    private static void gauges() {
        Consumer<SnagBook> once = x -> DUE.is("24: a READING", x.read(6, 5), 1);
        refused("24: it was read TODAY", once, x -> x.read(6, 6), STATE);
        refused("24: NONE is named ahead of STATE", once, x -> x.read(6, 10000), NONE);
        Consumer<SnagBook> twelve = x -> {
            for (int i = 1; i <= 12; i++) {
                x.days(1);
                DUE.is("24: READING " + i, x.read(6, i), i);
            }
        };
        refused("24: STATE is named ahead of FULL", twelve, x -> x.read(6, 6), STATE);
        refused("24: the 13th", twelve.andThen(x -> x.days(1)), x -> x.read(6, 6), FULL);
        refused("24: NONE is named ahead of FULL", twelve.andThen(x -> x.days(1)), x -> x.read(6, -1), NONE);
    }

    private static void diary() {
        int[] notPromised = {OPEN, SAID, CLOSED, VOID, TAKEN};
        for (int f : notPromised) {
            refused("29: job of " + f, x -> x.job(f), STATE);
        }
        Consumer<SnagBook> one = x -> DUE.is("29: a JOB", x.job(PROMISED), 1);
        refused("29: it is on the list", one, x -> x.job(PROMISED), STATE);
        Consumer<SnagBook> seven = x -> {
            for (int i = 7; i < 15; i++) {
                x.fault(12, 0, 1, 0);
                x.promise(i, 9);
            }
            for (int i = 7; i < 14; i++) {
                DUE.is("29: JOB " + (i - 6), x.job(i), i - 6);
            }
        };
        refused("29: the 8th JOB", seven, x -> x.job(14), FULL);
        refused("29: STATE (the first is on it) is named ahead of FULL", seven, x -> x.job(7), STATE);
        refused("29: STATE (the last is on it) is named ahead of FULL", seven, x -> x.job(13), STATE);
        refused("29: STATE (OPEN) is named ahead of FULL", seven, x -> x.job(OPEN), STATE);
        refused("29: NONE is named ahead of FULL", seven, x -> x.job(15), NONE);
        refused("30: the list is empty", x -> x.plan(5), STATE);
        refused("30: NONE is named ahead of STATE", x -> x.plan(15), NONE);
        refused("30: empty behind a plan", seven.andThen(x -> x.plan(5)), x -> x.plan(5), STATE);
        refused("31: no plan yet", seven, x -> x.planned(0), NONE);
        refused("31: JOB 7 of seven", seven.andThen(x -> x.plan(5)), x -> x.planned(7), NONE);
    }

    private static Consumer<SnagBook> bytes(int many) {
        return x -> {
            for (int i = 1; i <= many; i++) {
                DUE.is("32: byte " + i, x.feed(1, '1'), i);
            }
        };
    }

    private static void tape() {
        for (int n = 1; n <= 4; n++) {
            int more = n;
            refused("32: FULL of " + n, bytes(161 - n), x -> x.feed(more, '2'), FULL);
            SnagBook x = new SnagBook();
            bytes(160 - n).accept(x);
            DUE.is("32: the last " + n, x.feed(n, 0x3b3b3b3b), 160);
        }
        refused("32: NONE is named ahead of FULL", bytes(160), x -> x.feed(5, 0), NONE);
        refused("32: NONE is named ahead of FULL", bytes(160), x -> x.feed(0, 0), NONE);
    }

    private static void shelves() {
        for (int sort = 0; sort < 2; sort++) {
            int what = sort;
            String text = what == 0 ? ">b;" : "7";
            Consumer<SnagBook> ten = x -> {
                for (int i = 0; i < 10; i++) {
                    DUE.is("33: text " + i, Due.text(x, what, 0, text), i);
                }
                Due.feed(x, text);
            };
            refused("33: the 11th of sort " + what + ", THE TAPE stays", ten, x -> x.text(what, 0), FULL);
            refused("33: NONE is named ahead of FULL", ten, x -> x.text(what, 10000), NONE);
            refused("33: NONE is named ahead of FULL", ten, x -> x.text(what, -1), NONE);
            refused("33: FULL goes ahead of a FAULT in the text", ten.andThen(x -> x.feed(1, '?')), x -> x.text(what, 0), FULL);
            SnagBook x = new SnagBook();
            ten.accept(x);
            Due.text(x, 1 - what, 0, "");
            DUE.is("33: the other sort has room", Due.text(x, 1 - what, 0, what == 0 ? "7" : ">b;"), 0);
        }
    }

    private static void notAndBig() {
        refused("15: told later", x -> x.state(OPEN, 2), NOT);
        refused("17: told later", x -> x.source(OPEN, 2), NONE);
        refused("18: no DAMAGE", x -> x.damage(OPEN), NOT);
        refused("22: no CAUSE", x -> x.cause(1, 9, 1), NOT);
        refused("23: no CAUSE, no RIVALS", x -> x.rivals(1, 9, 1), NOT);
        refused("34: no key was given", x -> x.inForce(0, 1, 4), NONE);
        refused("34: nothing in force", x -> x.inForce(0, 0, 9999), NOT);
        refused("40: nothing is SAID by it, z stays", x -> x.draw(2), NOT);
        Consumer<SnagBook> saidAway = x -> x.look(SAID, 0);
        refused("40: nothing is SAID by it now, z stays", saidAway, x -> x.draw(1), NOT);
        Consumer<SnagBook> many = x -> {
            for (int i = 7; i < 48; i++) {
                x.fault(12, 0, 1, 0);
                x.said(i, 8);
            }
        };
        refused("42: 41 SAID, also with no LOOKS", many, x -> x.bounds(8, 49, 0), BIG);
        refused("42: 41 SAID, the greatest", many, x -> x.bounds(8, 1, 1), BIG);
        refused("42: NONE is named ahead of BIG", many, x -> x.bounds(8, 50, 0), NONE);
        refused("42: NONE is named ahead of BIG", many, x -> x.bounds(8, 49, 2), NONE);
    }
}
