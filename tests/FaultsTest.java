/** Promises 9 to 19. */
public final class FaultsTest {
    private static final Due DUE = new Due();

    public static void main(String[] args) {
        kinds();
        telling();
        promises();
        promisesThatEnd();
        saying();
        looking();
        voiding();
        thirtyStates();
        states();
        newOrOld();
        newAtTheTelling();
        listByDays();
        prices();
        sources();
        damages();
        rules();
        DUE.end("FaultsTest");
    }

    private static SnagBook book() {
        SnagBook x = new SnagBook();
        x.home(0, 0, 0);
        x.home(1, 0, 0);
        x.kind(0, 10, 0);
        x.kind(1, 7, 0);
        return x;
    }

    private static void kinds() {
        SnagBook x = new SnagBook();
        DUE.is("kind(-1, 1, 0)", x.kind(-1, 1, 0), -1);
        DUE.is("kind(10, 1, 0)", x.kind(10, 1, 0), -1);
        DUE.is("kind(0, 0, 0)", x.kind(0, 0, 0), -1);
        DUE.is("kind(0, 1000, 0)", x.kind(0, 1000, 0), -1);
        DUE.is("kind(0, 1, -1)", x.kind(0, 1, -1), -1);
        DUE.is("kind(0, 1, 8)", x.kind(0, 1, 8), -1);
        for (int i = 0; i < 20; i++) {
            DUE.is("kind " + i, x.kind(9, 999, 7), i);
        }
        DUE.is("kind 20", x.kind(0, 1, 0), -2);
        DUE.is("kind 20, wrong", x.kind(0, 0, 0), -1);
    }

    private static void telling() {
        SnagBook x = book();
        DUE.is("fault(24, ..)", x.fault(24, 0, 1, 0), -1);
        DUE.is("fault(-1, ..)", x.fault(-1, 0, 1, 0), -1);
        DUE.is("fault(-12, ..)", x.fault(-12, 0, 1, 0), -1);
        DUE.is("fault kind 2", x.fault(0, 2, 1, 0), -1);
        DUE.is("fault kind -1", x.fault(0, -1, 1, 0), -1);
        DUE.is("fault severity 0", x.fault(0, 0, 0, 0), -1);
        DUE.is("fault severity 10", x.fault(0, 0, 10, 0), -1);
        DUE.is("fault eye -1", x.fault(0, 0, 1, -1), -1);
        DUE.is("fault eye 11", x.fault(0, 0, 1, 11), -1);
        x.days(4);
        DUE.is("fault(23, 1, 9, 10)", x.fault(23, 1, 9, 10), 0);
        int[] want = {1, 11, 1, 9, 4, 10, 1, 0, 95, 0, 0, 0, 0, -1};
        for (int what = 0; what < want.length; what++) {
            DUE.is("ofFault(0, " + what + ")", x.ofFault(0, what), want[what]);
        }
        DUE.is("ofFault(0, 14)", x.ofFault(0, 14), -1);
        DUE.is("ofFault(0, -1)", x.ofFault(0, -1), -1);
        DUE.is("ofFault(1, 0)", x.ofFault(1, 0), -1);
        DUE.is("state(0, 4)", x.state(0, 4), 0);
        for (int i = 1; i < 200; i++) {
            DUE.is("fault " + i, x.fault(0, 0, 1, 0), i);
        }
        DUE.is("fault 200", x.fault(0, 0, 1, 0), -2);
        DUE.is("fault 200, wrong", x.fault(0, 0, 1, 11), -1);
        DUE.is("count(2)", x.count(2), 200);
    }

    private static void promises() {
        SnagBook x = book();
        x.days(10);
        x.fault(0, 0, 1, 0);
        DUE.is("promise(1, 20)", x.promise(1, 20), -1);
        DUE.is("promise(0, 9)", x.promise(0, 9), -1);
        DUE.is("promise(0, 10000)", x.promise(0, 10000), -1);
        DUE.is("ofFault 9", x.ofFault(0, 9), 0);
        DUE.is("promise(0, 9999)", x.promise(0, 9999), 1);
        DUE.is("ofFault 9", x.ofFault(0, 9), 1);
        DUE.is("promise(0, 10)", x.promise(0, 10), 1);
        DUE.is("MOVED", x.ofFault(0, 10), 1);
        DUE.is("promise(0, 12) on the day", x.promise(0, 12), 1);
        DUE.is("MOVED", x.ofFault(0, 10), 2);
        x.days(2);
        DUE.is("running on its day", x.ofFault(0, 9), 1);
        x.days(1);
        DUE.is("BROKEN behind it", x.ofFault(0, 9), 3);
        DUE.is("promise(0, 13)", x.promise(0, 13), 1);
        DUE.is("not MOVED", x.ofFault(0, 10), 2);
        DUE.is("BROKEN of the home", x.ofHome(0, 9), 1);
        x.said(0, 3);
        DUE.is("KEPT on its day", x.ofFault(0, 9), 2);
        DUE.is("promise of a SAID one", x.promise(0, 20), -3);
        x.days(9);
        DUE.is("KEPT stays", x.ofFault(0, 9), 2);
        x.look(0, 0);
        DUE.is("KEPT stays", x.ofFault(0, 9), 2);
        DUE.is("promise(0, 30)", x.promise(0, 30), 1);
        DUE.is("a KEPT one is not MOVED", x.ofFault(0, 10), 2);
        DUE.is("a KEPT one is not BROKEN", x.ofHome(0, 9), 1);
    }

    private static void promisesThatEnd() {
        SnagBook x = book();
        for (int i = 0; i < 4; i++) {
            x.fault(i, 0, 1, 0);
            x.promise(i, i < 2 ? 5 : 4);
        }
        x.days(5);
        x.key(0, 100);
        x.voids(0);
        x.take(1);
        x.voids(2);
        x.take(3);
        DUE.is("VOID on its day", x.ofFault(0, 9), 0);
        DUE.is("TAKEN on its day", x.ofFault(1, 9), 0);
        DUE.is("VOID behind it", x.ofFault(2, 9), 3);
        DUE.is("TAKEN behind it", x.ofFault(3, 9), 3);
        x.days(9);
        DUE.is("VOID later", x.ofFault(0, 9), 0);
        DUE.is("TAKEN later", x.ofFault(1, 9), 0);
        DUE.is("BROKEN of the home", x.ofHome(0, 9), 2);
    }

    private static void saying() {
        SnagBook x = book();
        x.fault(0, 0, 1, 0);
        DUE.is("said(1, 0)", x.said(1, 0), -1);
        DUE.is("said(0, -1)", x.said(0, -1), -1);
        DUE.is("said(0, 10)", x.said(0, 10), -1);
        DUE.is("said(0, 9)", x.said(0, 9), 1);
        DUE.is("said(0, 9) again", x.said(0, 9), -3);
        DUE.is("said(0, 10), wrong", x.said(0, 10), -1);
        DUE.is("no promise", x.ofFault(0, 9), 0);
        DUE.is("times SAID", x.ofFault(0, 11), 1);
        DUE.is("CREW", x.ofFault(0, 13), 9);
        x.look(0, 0);
        x.promise(0, 5);
        x.said(0, 2);
        DUE.is("times SAID", x.ofFault(0, 11), 2);
        DUE.is("CREW", x.ofFault(0, 13), 2);
        DUE.is("KEPT ahead", x.ofFault(0, 9), 2);
        x.look(0, 0);
        x.promise(0, 5);
        x.days(6);
        x.said(0, 2);
        DUE.is("BROKEN, SAID late", x.ofFault(0, 9), 3);
        x.look(0, 1);
        DUE.is("said of a closed one", x.said(0, 2), -3);
    }

    private static void looking() {
        SnagBook x = book();
        x.fault(0, 0, 1, 0);
        DUE.is("look(1, 1)", x.look(1, 1), -1);
        DUE.is("look(0, 1) of an OPEN one", x.look(0, 1), -3);
        x.said(0, 1);
        DUE.is("look(0, 2)", x.look(0, 2), -1);
        DUE.is("look(0, -1)", x.look(0, -1), -1);
        DUE.is("look(0, 0)", x.look(0, 0), 1);
        DUE.is("OPEN again", x.state(0, 0), 0);
        DUE.is("FALSELY CLOSED", x.ofFault(0, 12), 1);
        x.said(0, 1);
        DUE.is("look(0, 1)", x.look(0, 1), 1);
        DUE.is("TRULY CLOSED", x.state(0, 0), 3);
        DUE.is("FALSELY CLOSED", x.ofFault(0, 12), 1);
        DUE.is("look again", x.look(0, 1), -3);
    }

    private static void voiding() {
        SnagBook x = book();
        x.fault(0, 0, 1, 0);
        x.fault(0, 0, 1, 0);
        DUE.is("voids(2)", x.voids(2), -1);
        DUE.is("voids(-1)", x.voids(-1), -1);
        DUE.is("voids(0)", x.voids(0), 1);
        DUE.is("VOID", x.state(0, 0), 4);
        DUE.is("voids(0) again", x.voids(0), -3);
        DUE.is("promise of a VOID one", x.promise(0, 3), -3);
        DUE.is("said of a VOID one", x.said(0, 3), -3);
        x.said(1, 0);
        DUE.is("voids of a SAID one", x.voids(1), -3);
        x.look(1, 0);
        x.promise(1, 3);
        DUE.is("voids of a PROMISED one", x.voids(1), 1);
    }

    private static void thirtyStates() {
        SnagBook x = book();
        x.fault(0, 0, 1, 0);
        x.fault(0, 0, 1, 0);
        for (int i = 0; i < 29; i++) {
            DUE.is("promise " + i, x.promise(0, 5), 1);
        }
        DUE.is("promise 29", x.promise(0, 5), -2);
        DUE.is("said", x.said(0, 5), -2);
        DUE.is("voids", x.voids(0), -2);
        x.days(1);
        x.key(0, 100);
        DUE.is("take", x.take(0), -3);
        DUE.is("MOVED", x.ofFault(0, 10), 28);
        for (int i = 0; i < 14; i++) {
            x.said(1, 0);
            x.look(1, 0);
        }
        x.said(1, 0);
        DUE.is("look", x.look(1, 1), -2);
        DUE.is("LOOKED AT", x.ofCrew(0, 1), 14);
    }

    private static void states() {
        SnagBook x = book();
        x.days(5);
        x.fault(0, 0, 1, 0);
        DUE.is("state(1, 5)", x.state(1, 5), -1);
        DUE.is("state(0, -1)", x.state(0, -1), -1);
        DUE.is("state(0, 10000)", x.state(0, 10000), -1);
        DUE.is("state(0, 4)", x.state(0, 4), -4);
        x.days(2);
        x.promise(0, 9);
        x.said(0, 0);
        x.days(2);
        x.look(0, 1);
        DUE.is("state(0, 6)", x.state(0, 6), 0);
        DUE.is("state(0, 7)", x.state(0, 7), 2);
        DUE.is("state(0, 8)", x.state(0, 8), 2);
        DUE.is("state(0, 9)", x.state(0, 9), 3);
        DUE.is("state(0, 9999)", x.state(0, 9999), 3);
    }

    private static void newOrOld() {
        SnagBook x = book();
        x.fault(0, 0, 1, 0);
        x.fault(1, 0, 1, 0);
        x.fault(2, 0, 1, 0);
        x.said(1, 0);
        x.look(1, 1);
        x.voids(2);
        x.key(0, 0);
        x.days(1);
        DUE.is("of THE LIST", x.ofFault(0, 6), 1);
        DUE.is("one of THE LIST is OLD", x.ofFault(0, 7), 0);
        int same = x.fault(0, 0, 1, 10);
        DUE.is("not of THE LIST", x.ofFault(same, 6), 0);
        DUE.is("OLD by THE LIST", x.ofFault(same, 7), 0);
        DUE.is("OLD, though the listed one is closed", x.ofFault(x.fault(1, 0, 1, 10), 7), 0);
        int behindVoid = x.fault(2, 0, 1, 10);
        DUE.is("NEW, the listed one is VOID", x.ofFault(behindVoid, 7), 1);
        DUE.is("NEW, another kind", x.ofFault(x.fault(0, 1, 1, 10), 7), 1);
        DUE.is("NEW, another room", x.ofFault(x.fault(3, 0, 1, 10), 7), 1);
        DUE.is("OLD, an earlier one is open", x.ofFault(x.fault(3, 0, 1, 10), 7), 0);
        x.said(behindVoid, 1);
        x.days(1);
        DUE.is("OLD, an earlier one is SAID", x.ofFault(x.fault(2, 0, 1, 10), 7), 0);
        x.look(behindVoid, 1);
        x.voids(9);
        x.days(1);
        DUE.is("NEW, all are closed or VOID", x.ofFault(x.fault(2, 0, 1, 10), 7), 1);
        DUE.is("NEW as on its day", x.ofFault(behindVoid, 7), 1);
        x.voids(0);
        DUE.is("OLD stays OLD when the listed one is VOID later", x.ofFault(same, 7), 0);
    }

    private static void newAtTheTelling() {
        SnagBook x = book();
        x.fault(0, 0, 1, 0);
        x.key(0, 0);
        x.days(1);
        x.fault(1, 0, 1, 10);
        int byList = x.fault(0, 0, 1, 10);
        int byOpen = x.fault(1, 0, 1, 10);
        x.voids(0);
        x.said(1, 3);
        x.look(1, 1);
        DUE.is("OLD, though the listed one became VOID that day", x.ofFault(byList, 7), 0);
        DUE.is("OLD, though the earlier one was closed that day", x.ofFault(byOpen, 7), 0);
        x.voids(byList);
        x.voids(byOpen);
        int behindVoid = x.fault(0, 0, 1, 10);
        int behindClosed = x.fault(1, 0, 1, 10);
        DUE.is("NEW, all were VOID ahead of it that day", x.ofFault(behindVoid, 7), 1);
        DUE.is("NEW, the open one was closed ahead of it that day", x.ofFault(behindClosed, 7), 1);
        x.fault(0, 0, 1, 10);
        DUE.is("NEW, a later one is none of its own", x.ofFault(behindVoid, 7), 1);
        Due.text(x, 0, 0, "n=1>b;n=0>w;");
        DUE.is("judged as OLD", x.judge(byList, 0), 1);
        DUE.is("judged as NEW", x.judge(behindVoid, 0), 0);
        x.days(1);
        DUE.is("OLD a day later", x.ofFault(byOpen, 7), 0);
    }

    private static void listByDays() {
        SnagBook x = book();
        x.days(1);
        x.key(0, 0);
        x.fault(0, 0, 1, 10);
        DUE.is("on the KEY DAY", x.ofFault(0, 6), 1);
        x.days(1);
        x.fault(0, 0, 1, 10);
        x.fault(12, 0, 1, 10);
        DUE.is("behind it", x.ofFault(1, 6), 0);
        DUE.is("no key", x.ofFault(2, 6), 1);
    }

    private static void prices() {
        SnagBook x = book();
        for (int room = 0; room < 12; room++) {
            x.fault(room, 1, 3, 0);
            DUE.is("PRICE in room " + room, x.ofFault(room, 8), room < 8 ? 21 : 32);
        }
        x.fault(8, 1, 2, 0);
        DUE.is("an even PRICE", x.ofFault(12, 8), 21);
    }

    private static void sources() {
        SnagBook x = new SnagBook();
        x.home(0, 0, 0);
        x.home(1, 0, 0);
        x.kind(0, 1, 4);
        x.kind(0, 1, 1);
        x.kind(0, 1, 5);
        x.kind(0, 1, 0);
        int stain = x.fault(0, 0, 1, 0);
        DUE.is("none above", x.source(stain, 0), stain);
        x.fault(4, 3, 1, 0);
        x.fault(16, 1, 1, 0);
        x.fault(5, 1, 1, 0);
        x.fault(8, 1, 1, 0);
        DUE.is("no leak, another home, room, floor", x.source(stain, 0), stain);
        x.days(1);
        int through = x.fault(4, 2, 1, 0);
        int other = x.fault(4, 1, 1, 0);
        DUE.is("as known ahead", x.source(stain, 0), stain);
        DUE.is("and so on from there", x.source(stain, 1), 4);
        DUE.is("of the middle one", x.source(through, 1), 4);
        DUE.is("no STAIN", x.source(other, 1), other);
        DUE.is("told later", x.source(through, 0), -1);
        DUE.is("source(9, 1)", x.source(9, 1), -1);
        DUE.is("source(0, -1)", x.source(0, -1), -1);
        DUE.is("source(0, 10000)", x.source(0, 10000), -1);
        x.days(1);
        x.voids(through);
        DUE.is("the next told", x.source(stain, 2), other);
        DUE.is("as known ahead", x.source(stain, 1), 4);
        x.said(other, 0);
        DUE.is("SAID only", x.source(stain, 2), other);
        x.look(other, 1);
        DUE.is("TRULY CLOSED", x.source(stain, 2), stain);
        int top = x.fault(9, 0, 1, 0);
        DUE.is("none above the top", x.source(top, 2), top);
    }

    private static void damages() {
        SnagBook x = book();
        x.kind(2, 1, 0);
        x.fault(0, 0, 1, 0);
        x.fault(0, 1, 1, 0);
        x.fault(1, 0, 1, 0);
        x.said(0, 5);
        x.said(2, 6);
        int sameDay = x.fault(0, 2, 1, 0);
        DUE.is("damage of the same day", x.damage(sameDay), -4);
        x.days(1);
        int next = x.fault(0, 2, 1, 0);
        DUE.is("damage a day behind", x.damage(next), 0);
        DUE.is("damage(99)", x.damage(99), -1);
        DUE.is("the same kind", x.damage(x.fault(0, 0, 1, 0)), -4);
        DUE.is("another home", x.damage(x.fault(12, 2, 1, 0)), -4);
        DUE.is("charged", x.ofCrew(5, 3), 1);
        x.said(1, 7);
        x.look(1, 0);
        x.said(1, 8);
        DUE.is("SAID on its day, not ahead", x.damage(next), 0);
        x.look(0, 0);
        x.said(0, 4);
        x.days(13);
        int both = x.fault(0, 2, 1, 0);
        DUE.is("of one day the greater number", x.damage(both), 1);
        DUE.is("the last one that said it", x.ofCrew(8, 3), 1);
        DUE.is("not the one ahead", x.ofCrew(7, 3), 0);
        x.days(1);
        int last = x.fault(0, 2, 1, 0);
        DUE.is("SPAN days behind", x.damage(last), 1);
        x.days(1);
        int beyond = x.fault(0, 2, 1, 0);
        DUE.is("beyond SPAN", x.damage(beyond), -4);
        x.rule(0, 15);
        DUE.is("a greater SPAN", x.damage(beyond), 1);
        x.rule(0, 0);
        DUE.is("SPAN 0", x.damage(next), -4);
    }

    private static void rules() {
        SnagBook x = book();
        DUE.is("rule(-1, 0)", x.rule(-1, 0), -1);
        DUE.is("rule(2, 0)", x.rule(2, 0), -1);
        DUE.is("rule(0, -1)", x.rule(0, -1), -1);
        DUE.is("rule(0, 61)", x.rule(0, 61), -1);
        DUE.is("rule(1, -1)", x.rule(1, -1), -1);
        DUE.is("rule(1, 1000)", x.rule(1, 1000), -1);
        DUE.is("rule(0, 60)", x.rule(0, 60), 14);
        DUE.is("rule(0, 0)", x.rule(0, 0), 60);
        DUE.is("rule(1, 999)", x.rule(1, 999), 100);
        DUE.is("rule(1, 0)", x.rule(1, 0), 999);
    }
}
