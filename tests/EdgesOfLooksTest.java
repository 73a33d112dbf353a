/** Parts 7 and 9 of the document, promises 38 to 45: each sentence that names an edge has a test of its own. */
public final class EdgesOfLooksTest {
    private static final Due DUE = new Due();
    private static final int NOT = -4;

    public static void main(String[] args) {
        bothOnTheList();
        roomAndKindOnce();
        acrossHomes();
        missed();
        harsh();
        theBuyerIsNoEye();
        drawsByNumbers();
        drawsWrap();
        drawsOfNone();
        crewsCounted();
        boundsOfForty();
        boundsOfNoLooks();
        boundsOfAllLooks();
        boundsByP();
        boundsJustSo();
        weightAsKnown();
        likeStreets();
        allEightStreets();
        counts();
        DUE.end("EdgesOfLooksTest");
    }

    private static SnagBook book() {
        SnagBook x = new SnagBook();
        for (int i = 0; i < 3; i++) {
            x.home(i, 0, 0);
        }
        x.kind(0, 1, 0);
        x.kind(1, 1, 0);
        return x;
    }

    private static void doubles(String name, SnagBook x, int a, int b, int... want) {
        for (int what = 0; what < 6; what++) {
            DUE.is("38: " + name + ", " + what, x.doubles(a, b, what), want[what]);
        }
    }

    private static void bothOnTheList() {
        SnagBook x = book();
        doubles("nothing told", x, 0, 9, 0, 0, 0, 0, 0, 0);
        x.fault(0, 0, 5, 0);
        doubles("one of them", x, 0, 9, 0, 0, 0, 0, 0, 0);
        x.key(0, 0);
        x.days(1);
        x.fault(1, 0, 5, 9);
        doubles("the other behind the key", x, 0, 9, 0, 0, 0, 0, 0, 0);
        x = book();
        x.fault(0, 0, 5, 0);
        x.days(1);
        x.key(0, 0);
        x.fault(1, 0, 5, 9);
        doubles("the other on the KEY DAY", x, 0, 9, 1, 0, 1, 1, 10000, 0);
        x = book();
        x.fault(0, 0, 5, 0);
        x.fault(12, 0, 5, 9);
        doubles("in two HOMES", x, 0, 9, 0, 0, 0, 0, 0, 0);
    }

    private static void roomAndKindOnce() {
        SnagBook x = book();
        for (int i = 0; i < 2; i++) {
            x.fault(0, 0, 5, 0);
            x.fault(0, 0, 5, 9);
            x.fault(1, 0, 5, 0);
            x.fault(2, 0, 5, 9);
        }
        doubles("each counts once", x, 0, 9, 1, 1, 1, 1, 5000, 0);
        x.fault(0, 1, 5, 0);
        doubles("another KIND of the ROOM", x, 0, 9, 1, 1, 2, 1, 5000, 0);
        doubles("the other way", x, 9, 0, 1, 1, 1, 2, 6666, 0);
        x.fault(0, 1, 5, 9);
        doubles("told by both", x, 0, 9, 1, 2, 1, 1, 3333, 0);
        x.voids(0);
        doubles("told all the same, though VOID", x, 0, 9, 1, 2, 1, 1, 3333, 0);
    }

    private static void acrossHomes() {
        SnagBook x = book();
        x.fault(0, 0, 5, 0);
        x.fault(0, 0, 5, 9);
        x.fault(12, 0, 5, 0);
        x.fault(13, 0, 5, 9);
        x.fault(24, 0, 5, 0);
        x.fault(25, 0, 5, 0);
        doubles("HOME 2 is told by one alone", x, 0, 9, 2, 1, 1, 1, 5000, 0);
        x.fault(24, 1, 5, 9);
        doubles("and then by both", x, 0, 9, 3, 1, 3, 2, 6666, 0);
    }

    private static void missed() {
        SnagBook x = book();
        x.fault(0, 0, 5, 0);
        x.fault(0, 0, 5, 9);
        DUE.is("38: none ALONE", x.doubles(0, 9, 4), 0);
        x.fault(1, 0, 5, 9);
        x.fault(2, 0, 5, 9);
        DUE.is("38: 2 of 3, the rest away", x.doubles(0, 9, 4), 6666);
        DUE.is("38: by the other: 0 of 1", x.doubles(9, 0, 4), 0);
        x = book();
        x.fault(0, 0, 5, 0);
        x.fault(1, 0, 5, 9);
        DUE.is("38: 1 of 1", x.doubles(0, 9, 4), 10000);
        DUE.is("38: the second told nothing: 0", x.doubles(0, 8, 4), 0);
        DUE.is("38: the first told nothing", x.doubles(8, 0, 4), 0);
    }

    private static void harsh() {
        SnagBook x = book();
        x.fault(0, 0, 1, 0);
        x.fault(0, 0, 9, 9);
        x.fault(0, 0, 7, 0);
        x.fault(0, 0, 1, 9);
        DUE.is("38: the first such FAULT of each", x.doubles(0, 9, 5), -8);
        DUE.is("38: the other way", x.doubles(9, 0, 5), 8);
        x.fault(1, 0, 9, 0);
        DUE.is("38: ALONE is not in the sum", x.doubles(0, 9, 5), -8);
        x.fault(12, 1, 7, 0);
        x.fault(12, 1, 4, 9);
        DUE.is("38: the sum over HOMES", x.doubles(0, 9, 5), -5);
    }

    private static void theBuyerIsNoEye() {
        SnagBook x = book();
        x.fault(0, 0, 1, 0);
        x.fault(0, 0, 9, 10);
        DUE.is("38: the buyer as the second", x.doubles(0, 10, 0), -2000000000);
        DUE.is("38: the buyer as the first", x.doubles(10, 0, 0), -2000000000);
        for (int eye = 1; eye < 10; eye++) {
            DUE.is("38: EYE " + eye, x.doubles(0, eye, 0), 0);
        }
    }

    /** FAULTS 0 to 4, all SAID by CREW 2. */
    private static SnagBook said() {
        SnagBook x = book();
        for (int i = 0; i < 5; i++) {
            x.fault(i, 0, 1, 0);
            x.said(i, 2);
        }
        return x;
    }

    private static int next(int z) {
        return z * 1103515245 + 12345;
    }

    private static void drawsByNumbers() {
        SnagBook x = said();
        x.look(1, 0);
        x.look(3, 1);
        x.look(4, 0);
        x.said(4, 3);
        int[] left = {0, 2};
        boolean[] drawn = new boolean[2];
        int z = 1;
        for (int i = 0; i < 20; i++) {
            z = next(z);
            int lot = (z >>> 8) % 2;
            drawn[lot] = true;
            DUE.is("40: lot " + lot + " of two", x.draw(2), left[lot]);
        }
        DUE.is("40: both came", drawn[0] && drawn[1] ? 1 : 0, 1);
        DUE.is("40: one of one", x.draw(3), 4);
        x.said(1, 2);
        x.look(0, 1);
        x.look(2, 1);
        DUE.is("40: one of one, SAID anew", x.draw(2), 1);
    }

    private static void drawsWrap() {
        int[] starts = {Integer.MIN_VALUE, -12345, -1, 0, 1, 2, 5, 1 << 30, Integer.MAX_VALUE};
        for (int start : starts) {
            SnagBook x = said();
            DUE.is("39: lots(" + start + ")", x.lots(start), 1);
            int z = start;
            for (int i = 0; i < 5; i++) {
                z = next(z);
                DUE.is("40: from " + start + ", draw " + i, x.draw(2), (z >>> 8) % 5);
            }
        }
        // z of -1 becomes -1103502900: without its sign 3191464396, its higher bits 12466657.
        SnagBook x = said();
        x.lots(-1);
        DUE.is("40: a z below 0 is no lot below 0", x.draw(2), 12466657 % 5);
    }

    private static void drawsOfNone() {
        SnagBook x = said();
        DUE.is("40: another CREW", x.draw(9), NOT);
        DUE.is("40: z stays", x.draw(2), (next(1) >>> 8) % 5);
        SnagBook y = said();
        y.lots(next(1));
        DUE.is("40: one draw, one z", x.draw(2), y.draw(2));
        x = said();
        for (int i = 0; i < 5; i++) {
            x.look(i, 1);
        }
        DUE.is("40: all are closed", x.draw(2), NOT);
    }

    private static void crewsCounted() {
        SnagBook x = said();
        DUE.is("41: SAID in all", x.ofCrew(2, 0), 5);
        DUE.is("41: not LOOKED AT", x.ofCrew(2, 1), 0);
        x.look(0, 0);
        x.look(1, 1);
        DUE.is("41: LOOKED AT", x.ofCrew(2, 1), 2);
        DUE.is("41: FALSELY CLOSED", x.ofCrew(2, 2), 1);
        x.said(0, 2);
        DUE.is("41: each time counted", x.ofCrew(2, 0), 6);
        x.look(0, 0);
        x.said(0, 9);
        x.look(0, 1);
        DUE.is("41: the LOOKS at its own", x.ofCrew(2, 1), 3);
        DUE.is("41: its own false ones", x.ofCrew(2, 2), 2);
        DUE.is("41: the last CREW, SAID", x.ofCrew(9, 0), 1);
        DUE.is("41: the last CREW, LOOKED AT", x.ofCrew(9, 1), 1);
        DUE.is("41: the last CREW, none false", x.ofCrew(9, 2), 0);
        DUE.is("41: the first CREW", x.ofCrew(0, 0), 0);
    }

    /** CREW 6 SAID so many, so many LOOKS found them well done and so many false. */
    private static SnagBook looked(int all, int good, int falsely) {
        SnagBook x = book();
        for (int i = 0; i < all; i++) {
            x.fault(0, 0, 1, 0);
            x.said(i, 6);
        }
        for (int i = 0; i < good + falsely; i++) {
            x.look(i, i < good ? 1 : 0);
        }
        return x;
    }

    private static void bounds(String name, SnagBook x, int p, int least, int greatest) {
        DUE.is("42: " + name + ", the least", x.bounds(6, p, 0), least);
        DUE.is("42: " + name + ", the greatest", x.bounds(6, p, 1), greatest);
    }

    private static void boundsOfForty() {
        bounds("40 SAID", looked(40, 0, 0), 10, 0, 40);
        bounds("41 SAID", looked(41, 0, 0), 10, -5, -5);
        bounds("41 SAID, all LOOKED AT", looked(41, 41, 0), 10, -5, -5);
        SnagBook x = looked(39, 0, 2);
        x.said(0, 6);
        bounds("40, one of them twice", x, 49, 29, 40);
        x.said(1, 6);
        bounds("41, two of them twice", x, 49, -5, -5);
    }

    private static void boundsOfNoLooks() {
        bounds("none SAID", looked(0, 0, 0), 49, 0, 0);
        bounds("1 SAID", looked(1, 0, 0), 49, 0, 1);
        bounds("7 SAID", looked(7, 0, 0), 1, 0, 7);
    }

    private static void boundsOfAllLooks() {
        bounds("all well done", looked(5, 5, 0), 49, 0, 0);
        bounds("all false", looked(5, 0, 5), 49, 5, 5);
        bounds("2 of 5 false", looked(5, 3, 2), 1, 2, 2);
        bounds("all but one, all well done", looked(5, 4, 0), 49, 0, 0);
        bounds("all but one, all false", looked(5, 0, 4), 49, 5, 5);
        bounds("the LOOKS so far all false", looked(5, 0, 2), 49, 4, 5);
    }

    /** One LOOK of so many: F false of N are found false with a chance of F of N. */
    private static void boundsByP() {
        bounds("1 of 100, one false", looked(40, 0, 1), 1, 1, 40);
        bounds("49 of 100, one false", looked(40, 0, 1), 49, 20, 40);
        bounds("1 of 100, one well done", looked(40, 1, 0), 1, 0, 39);
        bounds("49 of 100, one well done", looked(40, 1, 0), 49, 0, 20);
    }

    private static void boundsJustSo() {
        bounds("25 of 100, 1 of 4 is enough", looked(4, 0, 1), 25, 1, 4);
        bounds("26 of 100, 1 of 4 is not", looked(4, 0, 1), 26, 2, 4);
        bounds("25 of 100, 3 of 4 is enough", looked(4, 1, 0), 25, 0, 3);
        bounds("26 of 100, 3 of 4 is not", looked(4, 1, 0), 26, 0, 2);
        bounds("17 of 35 is less than 49 of 100", looked(35, 0, 1), 49, 18, 35);
        bounds("18 of 35 likewise", looked(35, 1, 0), 49, 0, 17);
    }

    private static void weightAsKnown() {
        SnagBook x = new SnagBook();
        x.home(799, 0, 0);
        x.kind(0, 1, 0);
        x.days(1);
        x.fault(0, 0, 9, 0);
        x.fault(0, 0, 1, 0);
        x.days(1);
        x.promise(0, 9);
        x.days(1);
        x.said(0, 1);
        x.days(1);
        x.look(0, 1);
        x.voids(1);
        int[] want = {0, 10, 10, 10, 0};
        for (int day = 0; day < 5; day++) {
            DUE.is("44: on DAY " + day, x.weight(7, day), want[day]);
            DUE.is("43: on DAY " + day, x.worst(0, day), want[day] == 0 ? 0 : 7);
        }
        DUE.is("44: a DAY to come", x.weight(7, 9999), 0);
        DUE.is("44: another STREET", x.weight(6, 1), 0);
    }

    private static void likeStreets() {
        SnagBook x = new SnagBook();
        int[] streets = {6, 2, 4};
        for (int i = 0; i < 3; i++) {
            x.home(100 * streets[i], 0, 0);
        }
        x.kind(0, 1, 0);
        for (int i = 0; i < 3; i++) {
            x.fault(12 * i, 0, 5, 0);
        }
        int[] like = {2, 4, 6, 0, 1, 3, 5, 7};
        for (int i = 0; i < 8; i++) {
            DUE.is("43: of like ones the lesser, " + i, x.worst(i, 0), like[i]);
        }
        x.days(1);
        x.fault(0, 0, 1, 0);
        int[] six = {6, 2, 4, 0, 1, 3, 5, 7};
        for (int i = 0; i < 8; i++) {
            DUE.is("43: greater by 1, " + i, x.worst(i, 1), six[i]);
            DUE.is("43: the DAY ahead, " + i, x.worst(i, 0), like[i]);
        }
    }

    private static void allEightStreets() {
        SnagBook x = new SnagBook();
        x.kind(0, 1, 0);
        for (int street = 0; street < 8; street++) {
            DUE.is("43: without HOMES, " + street, x.worst(street, 0), street);
        }
        for (int street = 0; street < 8; street++) {
            x.home(100 * street, 0, 0);
            x.fault(12 * street, 0, 1 + street, 0);
        }
        for (int i = 0; i < 8; i++) {
            DUE.is("43: the greatest first, " + i, x.worst(i, 0), 7 - i);
            DUE.is("44: STREET " + i, x.weight(i, 0), 1 + i);
        }
    }

    private static void counts() {
        SnagBook x = book();
        x.fault(0, 0, 1, 0);
        x.fault(1, 0, 1, 0);
        x.days(1);
        x.key(0, 99999);
        x.key(1, 99999);
        Due.text(x, 1, 0, "3");
        x.free(0);
        x.free(1);
        x.take(0);
        x.take(1);
        DUE.is("45: KEPT BACK in all", x.count(8), 199990);
        DUE.is("45: FREED in all", x.count(9), 6);
        DUE.is("45: TAKEN in all", x.count(10), 2);
        DUE.is("45: keys given", x.count(11), 2);
        DUE.is("45: nothing behind 11", x.count(12), -1);
        DUE.is("45: nothing ahead of 0", x.count(-1), -1);
        int[] rest = {3, 2, 2, 1, 0, 1, 0, 0};
        for (int what = 0; what < rest.length; what++) {
            DUE.is("45: count(" + what + ")", x.count(what), rest[what]);
        }
    }
}
