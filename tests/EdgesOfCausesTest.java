/** Parts 3 and 4 of the document, promises 20 to 27: each sentence that names an edge has a test of its own. */
public final class EdgesOfCausesTest {
    private static final Due DUE = new Due();

    public static void main(String[] args) {
        toldUpToADay();
        notVoidThen();
        endsOfTheSorts();
        crewOfTheKind();
        lowGround();
        chanceUp();
        chanceOfNothing();
        chanceOfForty();
        belowP();
        firstBySort();
        firstByNumber();
        firstAndLastGroup();
        rivals();
        widthsAndTwelve();
        paces();
        threeReadings();
        drying();
        dryingOrNot();
        wetAndDry();
        unlikeSigns();
        greaterThanTheFirst();
        upToADay();
        sinkingStates();
        sinkingPlots();
        DUE.end("EdgesOfCausesTest");
    }

    /** So many homes in street 1, plots from 0 on, on high ground, batches from 0 on by turns of two. */
    private static SnagBook homes(int many) {
        SnagBook x = new SnagBook();
        for (int i = 0; i < many; i++) {
            x.home(100 + i, 500, i % 2);
        }
        x.kind(0, 1, 0);
        x.kind(1, 1, 0);
        return x;
    }

    private static void toldUpToADay() {
        SnagBook x = homes(3);
        x.days(1);
        x.fault(0, 0, 1, 0);
        x.fault(1, 0, 1, 0);
        x.fault(24, 1, 1, 0);
        x.days(1);
        x.fault(12, 0, 1, 0);
        DUE.is("20: the DAY ahead", x.joined(0, 1, 0, 0), 0);
        DUE.is("20: its DAY; a HOME counts once", x.joined(0, 1, 1, 0), 1);
        DUE.is("20: TODAY", x.joined(0, 1, 2, 0), 2);
        DUE.is("20: a DAY to come", x.joined(0, 1, 9999, 0), 2);
        DUE.is("20: another KIND", x.joined(1, 1, 9999, 0), 1);
        DUE.is("20: those of the GROUP", x.joined(0, 21, 2, 1), 1);
        DUE.is("20: all of the GROUP, on any DAY", x.joined(0, 20, 0, 2), 2);
        DUE.is("21: as of the DAY ahead", x.chance(0, 21, 1), 10000);
        DUE.is("21: as of TODAY", x.chance(0, 21, 2), 6667);
    }

    private static void notVoidThen() {
        SnagBook x = homes(2);
        x.fault(0, 0, 1, 0);
        x.fault(0, 0, 1, 0);
        x.fault(12, 0, 1, 0);
        x.said(2, 1);
        x.days(1);
        x.voids(0);
        x.look(2, 1);
        DUE.is("20: another FAULT of the HOME is left", x.joined(0, 1, 1, 0), 2);
        x.days(1);
        x.voids(1);
        DUE.is("20: all VOID then", x.joined(0, 1, 2, 0), 1);
        DUE.is("20: not VOID the DAY ahead", x.joined(0, 1, 1, 0), 2);
        DUE.is("20: TRULY CLOSED is not VOID", x.joined(0, 21, 2, 1), 1);
        DUE.is("20: all HOMES of the GROUP still", x.joined(0, 1, 2, 2), 2);
    }

    private static void endsOfTheSorts() {
        SnagBook x = new SnagBook();
        x.home(0, 0, 0);
        x.home(799, 999, 9);
        x.kind(9, 1, 0);
        x.crew(0, 9, 0);
        x.crew(1, 9, 9);
        x.fault(12, 0, 1, 0);
        int[] groups = {0, 7, 10, 19, 20, 29, 30};
        int[] with = {0, 1, 0, 1, 0, 1, 0};
        for (int i = 0; i < groups.length; i++) {
            DUE.is("20: all of GROUP " + groups[i], x.joined(0, groups[i], 0, 2), 1);
            DUE.is("20: with it of GROUP " + groups[i], x.joined(0, groups[i], 0, 1), with[i]);
        }
        int[] empty = {1, 6, 11, 18, 21, 28};
        for (int group : empty) {
            DUE.is("20: a GROUP without HOMES " + group, x.joined(0, group, 0, 2), 0);
            DUE.is("21: a GROUP without HOMES " + group, x.chance(0, group, 0), 10000);
        }
    }

    private static void crewOfTheKind() {
        SnagBook x = homes(2);
        DUE.is("20: no CREW at first", x.joined(0, 10, 0, 2), 0);
        x.crew(0, 1, 0);
        DUE.is("20: as another TRADE", x.joined(0, 10, 0, 2), 0);
        DUE.is("20: as the KIND's TRADE", x.joined(1, 10, 0, 2), 1);
        x.crew(0, 1, -1);
        DUE.is("20: none again", x.joined(1, 10, 0, 2), 0);
    }

    private static int lowHomes(int mark) {
        SnagBook x = new SnagBook();
        int[] grounds = {0, 99, 100, 998, 999};
        for (int ground : grounds) {
            x.home(0, ground, 0);
        }
        x.kind(0, 1, 0);
        if (mark >= 0) {
            x.rule(1, mark);
        }
        return x.joined(0, 30, 0, 2);
    }

    private static void lowGround() {
        DUE.is("20: below 100 at first", lowHomes(-1), 2);
        DUE.is("19: below 0 is none", lowHomes(0), 0);
        DUE.is("19: below 1", lowHomes(1), 1);
        DUE.is("19: GROUND 99 is not below 99", lowHomes(99), 1);
        DUE.is("19: GROUND 100 is below 101", lowHomes(101), 3);
        DUE.is("19: GROUND 999 is not below 999", lowHomes(999), 4);
    }

    private static void chanceUp() {
        SnagBook x = homes(3);
        x.crew(0, 0, 5);
        x.fault(0, 0, 1, 0);
        DUE.is("21: a third, up", x.chance(0, 15, 0), 3334);
        x.fault(12, 0, 1, 0);
        DUE.is("21: two thirds, up", x.chance(0, 15, 0), 6667);
        x = homes(4);
        x.crew(0, 0, 5);
        x.fault(0, 0, 1, 0);
        DUE.is("21: a fourth, just so", x.chance(0, 15, 0), 2500);
    }

    private static void chanceOfNothing() {
        SnagBook x = homes(4);
        DUE.is("21: no HOME with it", x.chance(0, 20, 0), 10000);
        x.fault(12, 0, 1, 0);
        DUE.is("21: none of the GROUP has it", x.chance(0, 20, 0), 10000);
        DUE.is("21: the GROUP is all HOMES", x.chance(0, 1, 0), 10000);
        for (int i = 0; i < 4; i++) {
            x.fault(12 * i, 0, 1, 0);
        }
        DUE.is("21: all HOMES have it", x.chance(0, 20, 0), 10000);
        DUE.is("21: no HOMES in the street", x.chance(0, 2, 0), 10000);
        x = new SnagBook();
        x.kind(0, 1, 0);
        DUE.is("21: no HOMES at all", x.chance(0, 0, 0), 10000);
        DUE.is("22: no HOMES at all", x.cause(0, 0, 9999), -4);
    }

    private static void chanceOfForty() {
        SnagBook x = homes(40);
        for (int i = 0; i < 40; i += 2) {
            x.fault(12 * i, 0, 1, 0);
        }
        DUE.is("21: 20 of 20 of 40, up", x.chance(0, 20, 0), 1);
        DUE.is("21: none of 20", x.chance(0, 21, 0), 10000);
        DUE.is("22: 1 is below 2", x.cause(0, 0, 2), 20);
        DUE.is("22: 1 is not below 1", x.cause(0, 0, 1), -4);
        x.crew(39, 0, 9);
        DUE.is("21: 1 without it, of 1", x.chance(0, 19, 0), 10000);
        x.fault(12 * 39, 0, 1, 0);
        DUE.is("21: 21 of 40, 1 of 1", x.chance(0, 19, 0), 5250);
    }

    private static void belowP() {
        SnagBook x = homes(4);
        x.fault(0, 0, 1, 0);
        x.crew(0, 0, 5);
        DUE.is("22: just p is not below p", x.cause(0, 0, 2500), -4);
        DUE.is("23: no CAUSE, so NOT", x.rivals(0, 0, 2500), -4);
        DUE.is("22: below p", x.cause(0, 0, 2501), 15);
        DUE.is("23: batch 0 is at 5000", x.rivals(0, 0, 5000), 0);
        DUE.is("23: and below 5001", x.rivals(0, 0, 5001), 1);
        DUE.is("22: a GROUP at 10000 is below no p", homes(4).cause(0, 0, 9999), -4);
    }

    private static void firstBySort() {
        SnagBook x = new SnagBook();
        x.home(700, 0, 9);
        x.home(0, 500, 0);
        x.kind(0, 1, 0);
        x.crew(0, 0, 9);
        x.fault(0, 0, 1, 0);
        DUE.is("22: like CHANCES, the STREET is first", x.cause(0, 0, 5001), 7);
        DUE.is("23: the same HOMES are no RIVALS", x.rivals(0, 0, 5001), 0);
        x.home(701, 500, 8);
        DUE.is("22: then the CREW", x.cause(0, 0, 3335), 19);
        x.crew(2, 0, 9);
        DUE.is("22: then the BATCH", x.cause(0, 0, 3335), 29);
        x = new SnagBook();
        x.home(0, 0, 0);
        x.home(1, 500, 0);
        x.kind(0, 1, 0);
        x.fault(0, 0, 1, 0);
        DUE.is("22: LOW ground is last", x.cause(0, 0, 5001), 30);
    }

    private static void firstByNumber() {
        SnagBook x = homes(6);
        x.fault(0, 0, 1, 0);
        x.fault(12, 0, 1, 0);
        x.crew(0, 0, 7);
        x.crew(1, 0, 4);
        DUE.is("21: like CHANCES", x.chance(0, 14, 0), x.chance(0, 17, 0));
        DUE.is("22: the lesser number is first", x.cause(0, 0, 3335), 14);
        DUE.is("23: the other is a RIVAL", x.rivals(0, 0, 3335), 1);
        x.crew(0, 0, 4);
        DUE.is("22: a lesser CHANCE goes ahead", x.cause(0, 0, 9999), 14);
        DUE.is("21: both of two", x.chance(0, 14, 0), 667);
    }

    /** STREET 0 and LOW ground, each the CAUSE, each a RIVAL of the other. */
    private static void firstAndLastGroup() {
        SnagBook x = new SnagBook();
        int[] where = {0, 1, 2, 700, 701, 703, 704, 705};
        int[] grounds = {500, 500, 0, 0, 0, 500, 500, 500};
        for (int i = 0; i < where.length; i++) {
            x.home(where[i], grounds[i], 0);
        }
        x.kind(0, 1, 0);
        x.fault(0, 0, 1, 0);
        x.fault(12, 0, 1, 0);
        x.fault(24, 0, 1, 0);
        DUE.is("22: the first GROUP of all", x.cause(0, 0, 9999), 0);
        DUE.is("23: the last GROUP is a RIVAL", x.rivals(0, 0, 9999), 1);
        x.voids(0);
        x.voids(1);
        x.fault(36, 0, 1, 0);
        x.fault(48, 0, 1, 0);
        DUE.is("22: the last GROUP of all", x.cause(0, 0, 9999), 30);
        DUE.is("21: of the first GROUP, 46 of 56, up", x.chance(0, 0, 0), 8215);
        DUE.is("23: STREET 7 alone is below that", x.rivals(0, 0, 8215), 1);
        DUE.is("23: the first GROUP is a RIVAL, too", x.rivals(0, 0, 8216), 2);
    }

    private static void rivals() {
        SnagBook x = homes(6);
        x.fault(0, 0, 1, 0);
        x.fault(24, 0, 1, 0);
        for (int i = 0; i < 6; i += 2) {
            x.crew(i, 0, 3);
        }
        DUE.is("21: 2 of 3 of 6", x.chance(0, 13, 0), 2000);
        DUE.is("22: CREW 3", x.cause(0, 0, 2001), 13);
        DUE.is("23: batch 0 is the same set", x.rivals(0, 0, 2001), 0);
        x.home(301, 500, 5);
        DUE.is("23: a HOME outside both changes nothing", x.rivals(0, 0, 2001), 0);
        x.crew(6, 0, 3);
        DUE.is("22: the BATCH is the lesser one", x.cause(0, 0, 9999), 20);
        DUE.is("23: CREW 3 is one HOME more", x.rivals(0, 0, 9999), 2);
        DUE.is("21: STREET 1 is below 9999, too", x.chance(0, 1, 0), 7143);
        rivalByOneHome(0);
        rivalByOneHome(3);
    }

    /** CREW 5 worked in all HOMES of batch 0 but this one. */
    private static void rivalByOneHome(int other) {
        SnagBook x = new SnagBook();
        for (int i = 0; i < 8; i++) {
            x.home(100 + i, 500, i < 4 ? 0 : 1);
            x.crew(i, 0, i < 4 && i != other ? 5 : -1);
        }
        x.kind(0, 1, 0);
        for (int i = 0; i < 4; i++) {
            x.fault(12 * i, 0, 1, 0);
        }
        DUE.is("22: batch 0", x.cause(0, 0, 9999), 20);
        DUE.is("23: CREW 5 is a RIVAL, without HOME " + other, x.rivals(0, 0, 9999), 1);
        x.crew(other, 0, 5);
        DUE.is("22: CREW 5 is the same set, and first", x.cause(0, 0, 9999), 15);
        DUE.is("23: and no RIVAL, with HOME " + other, x.rivals(0, 0, 9999), 0);
    }

    /** A book with one crack, read on these DAYS (rising) with these WIDTHS by turns. */
    private static SnagBook read(int... daysAndWidths) {
        SnagBook x = new SnagBook();
        x.home(0, 0, 0);
        x.kind(0, 1, 2);
        x.fault(0, 0, 1, 0);
        for (int i = 0; i < daysAndWidths.length; i += 2) {
            while (x.count(3) < daysAndWidths[i]) {
                x.days(Math.min(360, daysAndWidths[i] - x.count(3)));
            }
            x.read(0, daysAndWidths[i + 1]);
        }
        return x;
    }

    private static int says(int... daysAndWidths) {
        return read(daysAndWidths).gauge(0, 9999);
    }

    private static void widthsAndTwelve() {
        SnagBook x = read();
        DUE.is("24: WIDTH 0", x.read(0, 0), 1);
        x.days(1);
        DUE.is("24: WIDTH 9999", x.read(0, 9999), 2);
        for (int i = 3; i <= 12; i++) {
            x.days(1);
            DUE.is("24: how many", x.read(0, 5), i);
        }
        x.days(1);
        DUE.is("24: at most 12", x.read(0, 5), -2);
        DUE.is("26: the last PACE", x.pace(0, 10), 0);
        DUE.is("26: none behind it", x.pace(0, 11), -2000000000);
    }

    private static void paces() {
        SnagBook x = read(0, 0, 1, 9999, 2, 0, 5, 2, 8, 0, 2008, 1);
        DUE.is("26: the greatest", x.pace(0, 0), 9999000);
        DUE.is("26: the least", x.pace(0, 1), -9999000);
        DUE.is("26: toward 0 from above", x.pace(0, 2), 666);
        DUE.is("26: toward 0 from below", x.pace(0, 3), -666);
        DUE.is("26: less than 1 is 0", x.pace(0, 4), 0);
        DUE.is("26: no READING behind", x.pace(0, 5), -2000000000);
        DUE.is("26: one READING has no PACE", read(0, 5).pace(0, 0), -2000000000);
        DUE.is("26: no READING", read().pace(0, 0), -2000000000);
    }

    private static void threeReadings() {
        DUE.is("25: none", says(), 0);
        DUE.is("25: one", says(0, 5), 0);
        DUE.is("25: two, still", says(0, 5, 10, 5), 0);
        DUE.is("25: two, rising", says(0, 5, 10, 50), 0);
        DUE.is("25: three, still", says(0, 5, 10, 5, 20, 5), 1);
        DUE.is("25: three, rising ever more", says(0, 5, 10, 6, 20, 50), 2);
    }

    private static void drying() {
        DUE.is("25: the last one times 4 is the first one", says(0, 0, 1, 4, 2, 5), 1);
        DUE.is("25: and less", says(0, 0, 1, 5, 2, 6), 1);
        DUE.is("25: and more", says(0, 0, 1, 3, 2, 4), 0);
        DUE.is("25: by one 1000th: 4003 and 1001", says(0, 0, 1000, 4003, 2000, 5004), 0);
        DUE.is("25: 4004 and 1001", says(0, 0, 1000, 4004, 2000, 5005), 1);
        DUE.is("25: the last one is 0", says(0, 0, 1, 1, 2, 1), 1);
        DUE.is("25: like PACES in the middle", says(0, 0, 1, 8, 2, 10, 3, 12), 1);
    }

    private static void dryingOrNot() {
        DUE.is("25: one is greater than the one ahead", says(0, 0, 1, 80, 2, 81, 3, 83, 4, 83), 0);
        DUE.is("25: one is below 0", says(0, 0, 1, 80, 2, 79, 3, 79), 0);
        DUE.is("25: below 0 by one 1000th", says(0, 0, 1, 80, 1001, 79, 1002, 79), 2);
        DUE.is("25: a PACE below one 1000th is 0", says(0, 1, 1001, 0, 1002, 0), 1);
        DUE.is("25: the first one is below 0", says(0, 9, 1, 8, 2, 8), 0);
    }

    /** The second PACE ends on this DAY, down, the first one up on DAY 1, in a WET MONTH. */
    private static int downOn(int day) {
        return says(0, 0, 1, 5000, day, 0);
    }

    private static void wetAndDry() {
        DUE.is("25: DAY 29 is WET", downOn(29), 0);
        DUE.is("25: DAY 179, MONTH 5, is WET", downOn(179), 0);
        DUE.is("25: DAY 180, MONTH 6, is DRY", downOn(180), 2);
        DUE.is("25: DAY 359, MONTH 11, is DRY", downOn(359), 2);
        DUE.is("25: DAY 360, MONTH 12, is WET again", downOn(360), 0);
        DUE.is("25: DAY 539, MONTH 17, is WET", downOn(539), 0);
        DUE.is("25: DAY 540, MONTH 18, is DRY", downOn(540), 2);
        DUE.is("25: DAY 719, MONTH 23, is DRY", downOn(719), 2);
        DUE.is("25: DAY 720, MONTH 24, is WET", downOn(720), 0);
        DUE.is("25: the MONTH in which it ends counts, not that in which it begins", says(170, 0, 179, 5, 200, 2), 2);
        DUE.is("25: both end in DRY", says(170, 0, 180, 5, 200, 2), 0);
    }

    private static void unlikeSigns() {
        DUE.is("25: up in WET, down in DRY", says(0, 0, 1, 9, 200, 1), 2);
        DUE.is("25: down in WET, up in DRY, the last not greater than the first",
            says(0, 0, 1, 9, 2, 1, 200, 2), 2);
        DUE.is("25: down in both", says(0, 9, 1, 8, 200, 0), 0);
        DUE.is("25: down in both, DRY first", says(190, 900, 191, 400, 361, 10), 0);
        DUE.is("25: up in both, the last not greater", says(0, 0, 1, 9, 200, 606), 0);
        DUE.is("25: 0 in WET, up in DRY, not greater than the first", says(0, 0, 1, 9, 2, 9, 200, 603), 0);
        DUE.is("25: 0 in DRY, up in WET", says(0, 0, 1, 9, 200, 9, 361, 492), 0);
        DUE.is("25: 0 in WET, down in DRY", says(0, 9, 1, 9, 200, 1), 0);
        DUE.is("25: up in WET, 0 in DRY, down in WET", says(0, 0, 1, 9, 200, 9, 361, 8), 0);
        DUE.is("25: by one 1000th, up in WET", says(0, 0, 780, 1, 1700, 0), 2);
        DUE.is("25: by one 1000th, up in DRY", says(0, 0, 1000, 1, 1800, 0), 2);
        DUE.is("25: by one 1000th, down in WET, then up in DRY", says(0, 0, 1, 9, 780, 8, 1700, 9), 2);
        DUE.is("25: one of the two below one 1000th", says(0, 0, 1000, 1, 2001, 0, 2010, 0), 1);
    }

    private static void greaterThanTheFirst() {
        DUE.is("25: just as the first one", says(0, 0, 1, 5, 2, 10), 0);
        DUE.is("25: greater by one 1000th", says(0, 0, 1000, 5, 2000, 11), 2);
        DUE.is("25: greater, 1 and 0 ahead", says(0, 0, 1, 0, 1001, 1), 2);
        DUE.is("25: greater, but 0", says(0, 9, 1, 0, 2, 0), 0);
        DUE.is("25: greater, but below 0", says(0, 9, 1, 1, 2, 0), 0);
        DUE.is("25: the middle one is greatest", says(0, 0, 1, 5, 2, 50, 3, 55), 0);
        DUE.is("25: the last one is greater than the first, not than the one ahead", says(0, 0, 1, 5, 2, 50, 3, 56), 2);
    }

    private static void upToADay() {
        SnagBook x = read(5, 0, 10, 10, 20, 40, 30, 41);
        DUE.is("25: two READINGS up to DAY 19", x.gauge(0, 19), 0);
        DUE.is("25: three up to DAY 20", x.gauge(0, 20), 2);
        DUE.is("25: three up to DAY 29", x.gauge(0, 29), 2);
        DUE.is("25: four up to DAY 30", x.gauge(0, 30), 0);
        DUE.is("25: a DAY to come", x.gauge(0, 9999), 0);
        DUE.is("25: DAY 0", x.gauge(0, 0), 0);
    }

    /** Three homes of street 2 (plots 50, 0, 99) and one of street 3, each with a crack that quickens. */
    private static SnagBook sinkers() {
        SnagBook x = new SnagBook();
        int[] where = {250, 200, 299, 350};
        for (int w : where) {
            x.home(w, 0, 0);
        }
        x.kind(0, 1, 2);
        x.kind(0, 1, 0);
        for (int i = 0; i < 4; i++) {
            x.fault(12 * i, 0, 1, 0);
        }
        x.fault(0, 1, 1, 0);
        int[] widths = {0, 1, 9};
        for (int width : widths) {
            for (int i = 0; i < 4; i++) {
                x.read(i, width);
            }
            DUE.is("27: not yet with WIDTH " + width, x.sinking(3, 0), width == 9 ? 1 : 0);
            x.days(1);
        }
        return x;
    }

    private static void sinkingStates() {
        SnagBook x = sinkers();
        DUE.is("27: all three", x.sinking(2, 0), 3);
        x.promise(0, 5);
        DUE.is("27: PROMISED", x.sinking(2, 0), 3);
        x.said(0, 1);
        DUE.is("27: SAID", x.sinking(2, 0), 3);
        x.look(0, 1);
        DUE.is("27: TRULY CLOSED", x.sinking(2, 0), 2);
        x.voids(1);
        DUE.is("27: VOID", x.sinking(2, 0), 1);
        x.voids(2);
        DUE.is("27: none", x.sinking(2, 0), 0);
        DUE.is("27: another STREET", x.sinking(3, 0), 1);
        DUE.is("27: a STREET without HOMES", x.sinking(0, 0), 0);
    }

    private static void sinkingPlots() {
        SnagBook x = sinkers();
        DUE.is("27: the least", x.sinking(2, 1), 0);
        DUE.is("27: the greatest", x.sinking(2, 2), 99);
        x.voids(1);
        DUE.is("27: the least left", x.sinking(2, 1), 50);
        x.voids(2);
        DUE.is("27: the first FAULT of all is left, least", x.sinking(2, 1), 50);
        DUE.is("27: and greatest", x.sinking(2, 2), 50);
        x.voids(0);
        DUE.is("27: no least", x.sinking(2, 1), -1);
        DUE.is("27: no greatest", x.sinking(2, 2), -1);
        int[] whats = {-1, 3, 4};
        for (int what : whats) {
            DUE.is("27: what " + what + " of a street that sinks", x.sinking(3, what), -1);
        }
    }
}
