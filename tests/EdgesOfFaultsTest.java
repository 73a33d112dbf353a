/** Parts 1 and 2 of the document, promises 1 to 19: each sentence that names an edge has a test of its own. */
public final class EdgesOfFaultsTest {
    private static final Due DUE = new Due();

    public static void main(String[] args) {
        newBook();
        lastDay();
        theWeek();
        crewOfATrade();
        keyOnce();
        soldOnTheKeyDay();
        countedOfAHome();
        firstAndLastHome();
        flags();
        theList();
        theListWithoutAKey();
        oldByTheList();
        oldUntilTrulyClosed();
        oldNeedsTheSameThing();
        stateOfADay();
        promiseOfToday();
        kept();
        broken();
        movedOrBroken();
        endedWhileItRuns();
        endedBehindItsDay();
        brokenOfAHome();
        saidAndFalse();
        leakOfAStain();
        leaksUpToTheTop();
        leakAsKnown();
        damageDays();
        spanEdges();
        damageOfOthers();
        latestDamage();
        chargedCrew();
        price();
        DUE.end("EdgesOfFaultsTest");
    }

    /** Homes 0 and 1, kinds 0 (plain), 1 (plain), 2 (stain), 3 (leaks), 4 (both). */
    private static SnagBook book() {
        SnagBook x = new SnagBook();
        x.home(0, 0, 0);
        x.home(1, 0, 0);
        x.kind(0, 10, 0);
        x.kind(1, 7, 0);
        x.kind(2, 1, 4);
        x.kind(2, 1, 1);
        x.kind(2, 1, 5);
        return x;
    }

    private static void pass(SnagBook x, int days) {
        if (days > 0) {
            x.days(days);
        }
    }

    private static void newBook() {
        SnagBook x = new SnagBook();
        for (int what = 0; what < 12; what++) {
            DUE.is("1: count(" + what + ")", x.count(what), 0);
        }
        DUE.is("1: no homes", x.ofHome(0, 0), -1);
        DUE.is("1: no faults", x.ofFault(0, 0), -1);
        DUE.is("1: no text", x.text(0, 0), -100);
        x.home(0, 0, 0);
        x.kind(0, 1, 0);
        for (int i = 0; i < 200; i++) {
            x.fault(0, 0, 1, 0);
            x.said(i, 0);
        }
        // z is 1: 1103515245 + 12345 is 1103527590, its higher bits 4310654.
        DUE.is("1: z is 1", x.draw(0), 4310654 % 200);
    }

    private static void lastDay() {
        SnagBook x = new SnagBook();
        for (int i = 0; i < 27; i++) {
            DUE.is("2: days(360)", x.days(360), 360 * (i + 1));
        }
        DUE.is("2: a DAY beyond 9999", x.days(280), -1);
        DUE.is("2: far beyond", x.days(360), -1);
        DUE.is("2: DAY 9999", x.days(279), 9999);
        DUE.is("2: beyond 9999", x.days(1), -1);
        DUE.is("2: it stays", x.count(3), 9999);
    }

    private static void theWeek() {
        SnagBook x = book();
        DUE.is("6: all at first", x.in(0, 64), 127);
        DUE.is("6: what they were", x.in(0, 0), 64);
        DUE.is("6: none", x.in(0, 127), 0);
        DUE.is("6: another home", x.in(1, 127), 127);
    }

    private static void crewOfATrade() {
        SnagBook x = book();
        for (int trade = 0; trade < 10; trade++) {
            DUE.is("7: none at first", x.crew(0, trade, 9 - trade), -1);
        }
        for (int trade = 0; trade < 10; trade++) {
            DUE.is("7: which it was", x.crew(0, trade, -1), 9 - trade);
        }
        DUE.is("7: none again", x.crew(0, 0, -1), -1);
        DUE.is("7: another home", x.crew(1, 0, -1), -1);
    }

    private static void keyOnce() {
        SnagBook x = book();
        DUE.is("8: no KEY DAY at first", x.ofHome(0, 4), -1);
        DUE.is("4: the key, on DAY 0", x.key(0, 0), 1);
        DUE.is("8: KEY DAY 0", x.ofHome(0, 4), 0);
        DUE.is("45: keys given", x.count(11), 1);
        x.days(1);
        DUE.is("4: once", x.key(0, 5), -3);
        DUE.is("8: KEY DAY stays", x.ofHome(0, 4), 0);
        DUE.is("8: KEPT BACK stays", x.ofHome(0, 10), 0);
        DUE.is("4: most KEPT BACK", x.key(1, 99999), 1);
        DUE.is("45: KEPT BACK in all", x.count(8), 99999);
    }

    private static void soldOnTheKeyDay() {
        SnagBook x = book();
        DUE.is("5: ahead of the key", x.sell(0), -3);
        x.key(0, 0);
        DUE.is("5: on its KEY DAY", x.sell(0), 1);
        DUE.is("5: twice on a DAY", x.sell(0), 2);
        x.days(1);
        DUE.is("5: behind it", x.sell(0), 3);
        for (int i = 4; i <= 20; i++) {
            DUE.is("5: each time counted", x.sell(0), i);
        }
        DUE.is("5: at most 20 times", x.sell(0), -2);
        DUE.is("8: SOLD ON", x.ofHome(0, 5), 20);
    }

    private static void countedOfAHome() {
        SnagBook x = book();
        for (int i = 0; i < 3; i++) {
            x.fault(i, 0, 1, 0);
        }
        x.fault(12, 0, 1, 0);
        x.said(0, 1);
        x.look(0, 0);
        DUE.is("8: FALSELY CLOSED, the first fault", x.ofHome(0, 8), 1);
        x.said(0, 2);
        DUE.is("8: SAID is left", x.ofHome(0, 7), 3);
        x.look(0, 0);
        DUE.is("8: each time", x.ofHome(0, 8), 2);
        x.said(0, 1);
        x.look(0, 1);
        DUE.is("8: TRULY CLOSED is not left", x.ofHome(0, 7), 2);
        x.voids(1);
        DUE.is("8: VOID is not left", x.ofHome(0, 7), 1);
        x.promise(2, 0);
        DUE.is("8: PROMISED is left", x.ofHome(0, 7), 1);
        DUE.is("8: told", x.ofHome(0, 6), 3);
        DUE.is("8: told in the other", x.ofHome(1, 6), 1);
        DUE.is("8: none false in the other", x.ofHome(1, 8), 0);
    }

    private static void firstAndLastHome() {
        SnagBook x = new SnagBook();
        x.kind(0, 1, 0);
        for (int i = 0; i < 40; i++) {
            DUE.is("3: home " + i, x.home(i, 0, 0), i);
        }
        DUE.is("3: the 41st", x.home(0, 0, 0), -2);
        x.fault(0, 0, 1, 0);
        x.fault(11, 0, 1, 0);
        x.fault(479, 0, 1, 0);
        DUE.is("10: ROOM 11 of HOME 39 is the last", x.fault(480, 0, 1, 0), -1);
        DUE.is("16: the first HOME", x.ofFault(0, 0), 0);
        DUE.is("16: the first ROOM", x.ofFault(0, 1), 0);
        DUE.is("16: its last ROOM", x.ofFault(1, 1), 11);
        DUE.is("16: still the first HOME", x.ofFault(1, 0), 0);
        DUE.is("16: the last HOME", x.ofFault(2, 0), 39);
        DUE.is("16: its last ROOM", x.ofFault(2, 1), 11);
    }

    private static void flags() {
        for (int flags = 0; flags < 8; flags++) {
            SnagBook x = new SnagBook();
            x.home(0, 0, 0);
            x.kind(0, 1, flags);
            x.kind(0, 1, 1);
            x.kind(0, 1, 4);
            x.fault(4, 0, 1, 0);
            x.fault(0, 2, 1, 0);
            x.fault(8, 1, 1, 0);
            DUE.is("9: flags " + flags + ", it LEAKS", x.source(1, 0), (flags & 5) == 5 ? 2 : (flags & 1) == 1 ? 0 : 1);
            DUE.is("9: flags " + flags + ", it is a CRACK", x.gauge(0, 0), (flags & 2) == 2 ? 0 : -1);
            DUE.is("9: flags " + flags + ", it is a STAIN", x.source(0, 0), (flags & 4) == 4 ? 2 : 0);
        }
    }

    private static void theList() {
        SnagBook x = book();
        x.days(1);
        x.fault(0, 0, 1, 0);
        x.days(1);
        x.fault(0, 0, 1, 0);
        x.key(0, 0);
        x.fault(0, 0, 1, 0);
        x.days(1);
        x.fault(0, 0, 1, 0);
        DUE.is("16: told ahead of the KEY DAY", x.ofFault(0, 6), 1);
        DUE.is("16: told on it, ahead of the call", x.ofFault(1, 6), 1);
        DUE.is("16: told on it, behind the call", x.ofFault(2, 6), 1);
        DUE.is("16: told a DAY behind it", x.ofFault(3, 6), 0);
    }

    private static void theListWithoutAKey() {
        SnagBook x = book();
        x.key(0, 0);
        x.days(300);
        x.fault(12, 0, 1, 0);
        DUE.is("16: told while there is none", x.ofFault(0, 6), 1);
        x.days(1);
        x.key(1, 0);
        DUE.is("16: it stays of THE LIST", x.ofFault(0, 6), 1);
        DUE.is("16: one of THE LIST is OLD", x.ofFault(0, 7), 0);
    }

    private static void oldByTheList() {
        SnagBook x = book();
        x.fault(0, 0, 1, 0);
        x.fault(1, 0, 1, 0);
        x.key(0, 0);
        x.said(0, 1);
        x.look(0, 1);
        x.voids(1);
        x.days(1);
        DUE.is("16: OLD, the one of THE LIST is TRULY CLOSED", x.ofFault(x.fault(0, 0, 1, 10), 7), 0);
        DUE.is("16: NEW, the one of THE LIST is VOID", x.ofFault(x.fault(1, 0, 1, 10), 7), 1);
        DUE.is("16: NEW, there is none", x.ofFault(x.fault(2, 0, 1, 10), 7), 1);
    }

    private static void oldUntilTrulyClosed() {
        SnagBook x = book();
        x.key(0, 1000);
        x.days(1);
        Due.text(x, 0, 0, ">b;");
        int first = x.fault(0, 0, 1, 10);
        DUE.is("16: NEW, the first", x.ofFault(first, 7), 1);
        DUE.is("16: OLD, it is OPEN", x.ofFault(x.fault(0, 0, 1, 10), 7), 0);
        x.voids(1);
        x.promise(first, 5);
        DUE.is("16: OLD, it is PROMISED", x.ofFault(x.fault(0, 0, 1, 10), 7), 0);
        x.voids(2);
        x.said(first, 1);
        DUE.is("16: OLD, it is SAID", x.ofFault(x.fault(0, 0, 1, 10), 7), 0);
        x.voids(3);
        x.look(first, 1);
        int second = x.fault(0, 0, 1, 10);
        DUE.is("16: NEW, it is TRULY CLOSED", x.ofFault(second, 7), 1);
        x.take(second);
        DUE.is("16: NEW, it is TRULY CLOSED by TAKEN", x.ofFault(x.fault(0, 0, 1, 10), 7), 1);
        DUE.is("16: OLD ones stay OLD", x.ofFault(2, 7), 0);
        DUE.is("16: NEW ones stay NEW", x.ofFault(first, 7), 1);
    }

    private static void oldNeedsTheSameThing() {
        SnagBook x = book();
        x.fault(0, 0, 1, 0);
        x.key(0, 0);
        x.key(1, 0);
        x.days(1);
        DUE.is("16: another KIND", x.ofFault(x.fault(0, 1, 1, 10), 7), 1);
        DUE.is("16: another ROOM", x.ofFault(x.fault(1, 0, 1, 10), 7), 1);
        DUE.is("16: another HOME", x.ofFault(x.fault(12, 0, 1, 10), 7), 1);
        DUE.is("16: the same", x.ofFault(x.fault(0, 0, 1, 10), 7), 0);
    }

    private static void stateOfADay() {
        SnagBook x = book();
        x.days(5);
        x.fault(0, 0, 1, 0);
        x.promise(0, 5);
        x.days(1);
        x.said(0, 1);
        x.look(0, 0);
        x.said(0, 1);
        x.days(1);
        x.look(0, 1);
        x.fault(0, 0, 1, 0);
        x.voids(1);
        DUE.is("15: a DAY ahead of the telling", x.state(0, 4), -4);
        DUE.is("15: the last one that came on it", x.state(0, 5), 1);
        DUE.is("15: the last of four", x.state(0, 6), 2);
        DUE.is("15: TODAY", x.state(0, 7), 3);
        DUE.is("15: on DAYS to come", x.state(0, 9999), 3);
        DUE.is("15: VOID on the DAY of telling", x.state(1, 7), 4);
        DUE.is("15: DAY 0", x.state(1, 0), -4);
    }

    private static void promiseOfToday() {
        SnagBook x = book();
        x.days(10);
        x.fault(0, 0, 1, 0);
        DUE.is("11: a DAY past", x.promise(0, 9), -1);
        DUE.is("16: none", x.ofFault(0, 9), 0);
        DUE.is("11: TODAY", x.promise(0, 10), 1);
        DUE.is("15: PROMISED", x.state(0, 10), 1);
        DUE.is("11: the last DAY", x.promise(0, 9999), 1);
        DUE.is("11: beyond it", x.promise(0, 10000), -1);
    }

    private static int promiseSaidAfter(int days) {
        SnagBook x = book();
        x.fault(0, 0, 1, 0);
        x.promise(0, 5);
        pass(x, days);
        x.said(0, 1);
        return x.ofFault(0, 9);
    }

    private static void kept() {
        DUE.is("16: SAID on the DAY of promise", promiseSaidAfter(0), 2);
        DUE.is("16: SAID ahead of its DAY", promiseSaidAfter(4), 2);
        DUE.is("16: SAID on its DAY", promiseSaidAfter(5), 2);
        DUE.is("16: SAID behind its DAY", promiseSaidAfter(6), 3);
        SnagBook x = book();
        x.fault(0, 0, 1, 0);
        x.promise(0, 5);
        x.said(0, 1);
        x.days(1);
        x.look(0, 0);
        x.days(20);
        DUE.is("16: KEPT, though found false", x.ofFault(0, 9), 2);
        x.said(0, 1);
        DUE.is("16: KEPT, though SAID again late", x.ofFault(0, 9), 2);
        DUE.is("8: none BROKEN", x.ofHome(0, 9), 0);
    }

    private static void broken() {
        SnagBook x = book();
        x.fault(0, 0, 1, 0);
        x.promise(0, 5);
        x.days(5);
        DUE.is("16: running on its DAY", x.ofFault(0, 9), 1);
        DUE.is("8: none BROKEN", x.ofHome(0, 9), 0);
        x.days(1);
        DUE.is("16: BROKEN from the first DAY behind it on", x.ofFault(0, 9), 3);
        DUE.is("8: one BROKEN", x.ofHome(0, 9), 1);
        x.said(0, 1);
        x.look(0, 1);
        DUE.is("16: BROKEN, though closed", x.ofFault(0, 9), 3);
        DUE.is("8: still one", x.ofHome(0, 9), 1);
    }

    private static void movedOrBroken() {
        SnagBook x = book();
        x.fault(0, 0, 1, 0);
        x.promise(0, 5);
        x.days(5);
        x.promise(0, 6);
        DUE.is("16: MOVED on its DAY", x.ofFault(0, 10), 1);
        DUE.is("8: none BROKEN", x.ofHome(0, 9), 0);
        x.days(2);
        x.promise(0, 7);
        DUE.is("16: past, so not MOVED", x.ofFault(0, 10), 1);
        DUE.is("16: the later one runs", x.ofFault(0, 9), 1);
        DUE.is("8: past, so BROKEN", x.ofHome(0, 9), 1);
        x.promise(0, 7);
        DUE.is("16: up to the same DAY is MOVED, too", x.ofFault(0, 10), 2);
        x.said(0, 1);
        x.look(0, 0);
        x.promise(0, 9);
        DUE.is("16: a KEPT one is not MOVED", x.ofFault(0, 10), 2);
        x.days(30);
        x.said(0, 1);
        x.look(0, 0);
        DUE.is("16: BROKEN", x.ofFault(0, 9), 3);
        x.promise(0, 99);
        DUE.is("16: BROKEN is not MOVED", x.ofFault(0, 10), 2);
        DUE.is("8: two BROKEN", x.ofHome(0, 9), 2);
        DUE.is("16: the last one runs", x.ofFault(0, 9), 1);
    }

    private static SnagBook ended(int days) {
        SnagBook x = book();
        x.fault(0, 0, 1, 0);
        x.fault(1, 0, 1, 0);
        x.promise(0, 5);
        x.promise(1, 5);
        x.days(days);
        x.key(0, 10);
        x.voids(0);
        DUE.is("37: take", x.take(1), 10);
        return x;
    }

    private static void endedWhileItRuns() {
        int[] days = {1, 5};
        for (int day : days) {
            SnagBook x = ended(day);
            DUE.is("16: VOID on DAY " + day + ", none any more", x.ofFault(0, 9), 0);
            DUE.is("16: TAKEN on DAY " + day + ", none any more", x.ofFault(1, 9), 0);
            x.days(10);
            DUE.is("16: VOID, none later", x.ofFault(0, 9), 0);
            DUE.is("16: TAKEN, none later", x.ofFault(1, 9), 0);
            DUE.is("8: none BROKEN", x.ofHome(0, 9), 0);
        }
    }

    private static void endedBehindItsDay() {
        SnagBook x = ended(6);
        DUE.is("16: VOID behind its DAY", x.ofFault(0, 9), 3);
        DUE.is("16: TAKEN behind its DAY", x.ofFault(1, 9), 3);
        DUE.is("8: two BROKEN", x.ofHome(0, 9), 2);
        x = book();
        x.fault(0, 0, 1, 0);
        x.promise(0, 5);
        x.said(0, 1);
        x.look(0, 0);
        x.voids(0);
        DUE.is("16: a KEPT one stays, though VOID", x.ofFault(0, 9), 2);
    }

    private static void brokenOfAHome() {
        SnagBook x = book();
        x.fault(0, 0, 1, 0);
        x.fault(1, 0, 1, 0);
        x.fault(12, 0, 1, 0);
        for (int i = 0; i < 3; i++) {
            x.promise(i, i);
        }
        int[] first = {0, 1, 2, 2};
        int[] second = {0, 0, 0, 1};
        for (int day = 0; day < 4; day++) {
            DUE.is("8: BROKEN on DAY " + day, x.ofHome(0, 9), first[day]);
            DUE.is("8: BROKEN of the other on DAY " + day, x.ofHome(1, 9), second[day]);
            x.days(1);
        }
    }

    private static void saidAndFalse() {
        SnagBook x = book();
        x.fault(0, 0, 1, 0);
        DUE.is("16: never SAID", x.ofFault(0, 11), 0);
        DUE.is("16: by no CREW", x.ofFault(0, 13), -1);
        x.said(0, 9);
        x.look(0, 0);
        x.said(0, 0);
        DUE.is("16: times SAID", x.ofFault(0, 11), 2);
        DUE.is("16: the CREW that SAID it last", x.ofFault(0, 13), 0);
        DUE.is("16: times FALSELY CLOSED", x.ofFault(0, 12), 1);
        DUE.is("41: of the first CREW", x.ofCrew(9, 2), 1);
        x.look(0, 1);
        DUE.is("16: well done is not false", x.ofFault(0, 12), 1);
        DUE.is("16: the CREW stays", x.ofFault(0, 13), 0);
    }

    private static void leakOfAStain() {
        SnagBook x = book();
        int stain = x.fault(3, 2, 1, 0);
        int alone = x.fault(2, 4, 1, 0);
        x.fault(3, 3, 1, 0);
        x.fault(6, 3, 1, 0);
        x.fault(8, 3, 1, 0);
        x.fault(11, 3, 1, 0);
        x.fault(19, 3, 1, 0);
        x.fault(7, 0, 1, 0);
        DUE.is("17: none in the ROOM above", x.source(stain, 0), stain);
        int first = x.fault(7, 3, 1, 0);
        x.fault(7, 3, 1, 0);
        DUE.is("17: of several the first told", x.source(stain, 0), first);
        DUE.is("17: a leak is no leak of its own", x.source(first, 0), first);
        DUE.is("17: a stain that leaks is not its own leak", x.source(alone, 0), 3);
        x = book();
        int leak = x.fault(4, 3, 1, 0);
        DUE.is("17: told first of all", x.source(x.fault(0, 2, 1, 0), 0), leak);
    }

    private static void leaksUpToTheTop() {
        SnagBook x = book();
        int low = x.fault(0, 2, 1, 0);
        int middle = x.fault(4, 4, 1, 0);
        DUE.is("17: one floor up", x.source(low, 0), middle);
        int top = x.fault(8, 4, 1, 0);
        DUE.is("17: and so on from there", x.source(low, 0), top);
        DUE.is("17: from the middle", x.source(middle, 0), top);
        DUE.is("17: none is above FLOOR 2", x.source(top, 0), top);
        x.fault(12, 4, 1, 0);
        x.fault(0, 4, 1, 0);
        DUE.is("17: ROOM 12 is another HOME's", x.source(top, 0), top);
        x = book();
        low = x.fault(3, 2, 1, 0);
        int plain = x.fault(7, 3, 1, 0);
        x.fault(11, 3, 1, 0);
        DUE.is("17: one that is no STAIN is the last", x.source(low, 0), plain);
    }

    private static void leakAsKnown() {
        SnagBook x = book();
        int stain = x.fault(0, 2, 1, 0);
        x.days(1);
        int leak = x.fault(4, 3, 1, 0);
        x.days(1);
        x.said(leak, 1);
        x.days(1);
        x.look(leak, 1);
        int next = x.fault(4, 3, 1, 0);
        x.days(1);
        x.voids(next);
        DUE.is("17: told later", x.source(stain, 0), stain);
        DUE.is("17: told by then", x.source(stain, 1), leak);
        DUE.is("17: SAID is not closed", x.source(stain, 2), leak);
        DUE.is("17: TRULY CLOSED on that DAY", x.source(stain, 3), next);
        DUE.is("17: VOID on that DAY", x.source(stain, 4), stain);
        DUE.is("17: itself told on that DAY", x.source(leak, 1), leak);
        DUE.is("17: itself told later", x.source(leak, 0), -1);
        DUE.is("17: a DAY to come", x.source(stain, 9999), stain);
    }

    private static int damageAfter(int days, int span) {
        SnagBook x = book();
        x.rule(0, span);
        x.fault(0, 0, 1, 0);
        x.said(0, 1);
        pass(x, days);
        return x.damage(x.fault(0, 1, 1, 0));
    }

    private static void damageDays() {
        DUE.is("18: told on the DAY when it was SAID", damageAfter(0, 14), -4);
        DUE.is("18: told 1 day behind", damageAfter(1, 14), 0);
        DUE.is("18: told SPAN days behind", damageAfter(14, 14), 0);
        DUE.is("18: told SPAN and 1 days behind", damageAfter(15, 14), -4);
        SnagBook x = book();
        x.fault(0, 0, 1, 0);
        x.said(0, 1);
        x.days(14);
        DUE.is("18: SPAN is 14 at first", x.damage(x.fault(0, 1, 1, 0)), 0);
        x.days(1);
        DUE.is("18: 15 days are beyond it", x.damage(x.fault(0, 1, 1, 0)), -4);
    }

    private static void spanEdges() {
        DUE.is("19: SPAN 60", damageAfter(60, 60), 0);
        DUE.is("19: 61 days are beyond it", damageAfter(61, 60), -4);
        DUE.is("19: SPAN 1", damageAfter(1, 1), 0);
        DUE.is("19: 2 days are beyond it", damageAfter(2, 1), -4);
        DUE.is("19: SPAN 0 has no DAMAGE", damageAfter(1, 0), -4);
        DUE.is("19: SPAN 0 has none on the DAY", damageAfter(0, 0), -4);
    }

    private static void damageOfOthers() {
        SnagBook x = book();
        x.fault(0, 0, 1, 0);
        x.said(0, 1);
        x.look(0, 0);
        x.voids(0);
        x.fault(1, 0, 1, 0);
        x.promise(1, 0);
        x.days(1);
        DUE.is("18: was SAID, though VOID by then", x.damage(x.fault(0, 1, 1, 0)), 0);
        DUE.is("18: the same KIND", x.damage(x.fault(0, 0, 1, 0)), -4);
        DUE.is("18: another ROOM, PROMISED alone", x.damage(x.fault(1, 1, 1, 0)), -4);
        DUE.is("18: another HOME", x.damage(x.fault(12, 1, 1, 0)), -4);
    }

    private static void latestDamage() {
        SnagBook x = book();
        x.fault(0, 0, 1, 0);
        x.fault(0, 0, 1, 0);
        x.fault(0, 2, 1, 0);
        x.said(1, 1);
        x.days(1);
        x.said(0, 2);
        x.days(1);
        DUE.is("18: the latest, though of a lesser number", x.damage(x.fault(0, 1, 1, 0)), 0);
        x.look(1, 0);
        x.said(1, 3);
        x.look(0, 0);
        x.said(0, 4);
        x.days(1);
        int both = x.fault(0, 1, 1, 0);
        DUE.is("18: of one DAY the greater number, though SAID ahead of the other", x.damage(both), 1);
        x.said(2, 5);
        DUE.is("18: SAID on the DAY when it was told is too late", x.damage(both), 1);
        x.days(1);
        DUE.is("18: a DAY later it is the latest", x.damage(x.fault(0, 1, 1, 0)), 2);
    }

    private static void chargedCrew() {
        SnagBook x = book();
        x.fault(0, 0, 1, 0);
        x.said(0, 1);
        x.look(0, 0);
        x.said(0, 2);
        x.days(1);
        x.fault(0, 1, 1, 0);
        x.look(0, 0);
        x.said(0, 3);
        DUE.is("41: the CREW that SAID it first that DAY", x.ofCrew(1, 3), 0);
        DUE.is("41: the CREW that SAID it last that DAY", x.ofCrew(2, 3), 1);
        DUE.is("41: the CREW that SAID it later", x.ofCrew(3, 3), 0);
        x.voids(1);
        DUE.is("41: a VOID one is charged, too", x.ofCrew(2, 3), 1);
    }

    private static void price() {
        SnagBook x = book();
        x.kind(0, 1, 0);
        x.kind(0, 999, 0);
        int[] kinds = {5, 5, 5, 5, 6, 6};
        int[] severities = {1, 1, 2, 3, 9, 9};
        int[] rooms = {7, 8, 8, 11, 7, 11};
        int[] want = {1, 2, 3, 5, 8991, 13487};
        for (int i = 0; i < want.length; i++) {
            x.fault(rooms[i], kinds[i], severities[i], 0);
            DUE.is("16: PRICE " + i, x.ofFault(i, 8), want[i]);
        }
    }
}
