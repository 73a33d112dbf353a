/** Part 5 of the document, promises 28 to 31: each sentence that names an edge has a test of its own. */
public final class EdgesOfDiaryTest {
    private static final Due DUE = new Due();
    private static final int NONE = -1;
    private static final int NOT = -4;

    public static void main(String[] args) {
        menOfATrade();
        listOfSeven();
        jobsStay();
        notTwice();
        daysOfTheWeek();
        firstAndLastDayOfAPlan();
        dayNineThousand();
        menADay();
        onThePromisedDay();
        pastPromise();
        leastWeight();
        mostWithADay();
        leastSum();
        firstInOrder();
        noneLast();
        sevenOnFourteenDays();
        latestPlan();
        DUE.end("EdgesOfDiaryTest");
    }

    /** Homes 0 and 1; kinds 0 to 9 are of trades 0 to 9. */
    private static SnagBook book() {
        SnagBook x = new SnagBook();
        x.home(0, 0, 0);
        x.home(1, 0, 0);
        for (int trade = 0; trade < 10; trade++) {
            x.kind(trade, 1, 0);
        }
        return x;
    }

    /** One more fault, promised and on the list. */
    private static void job(SnagBook x, int home, int trade, int severity, int until) {
        int f = x.fault(12 * home, trade, severity, 0);
        x.promise(f, until);
        x.job(f);
    }

    private static void planned(String name, SnagBook x, int d, int broken, int... days) {
        DUE.is(name + ": plan(" + d + ")", x.plan(d), broken);
        for (int i = 0; i < days.length; i++) {
            DUE.is(name + ": planned(" + i + ")", x.planned(i), days[i]);
        }
        DUE.is(name + ": no more JOBS", x.planned(days.length), NONE);
        DUE.is(name + ": the list is empty", x.count(7), 0);
    }

    private static void menOfATrade() {
        SnagBook x = book();
        for (int trade = 0; trade < 10; trade++) {
            DUE.is("28: 1 at first", x.men(trade, trade), 1);
        }
        for (int trade = 0; trade < 10; trade++) {
            DUE.is("28: what they were", x.men(trade, 9), trade);
        }
    }

    private static void listOfSeven() {
        SnagBook x = book();
        for (int i = 0; i < 8; i++) {
            x.promise(x.fault(0, 0, 1, 0), 5);
        }
        for (int i = 0; i < 7; i++) {
            DUE.is("29: how many", x.job(i), i + 1);
        }
        DUE.is("29: the 8th", x.job(7), -2);
        DUE.is("45: JOBS", x.count(7), 7);
        x.plan(1);
        DUE.is("29: behind a plan there is room", x.job(7), 1);
    }

    private static void jobsStay() {
        SnagBook x = book();
        x.key(0, 100);
        job(x, 0, 0, 1, 0);
        job(x, 0, 1, 2, 0);
        job(x, 0, 2, 3, 0);
        job(x, 0, 3, 4, 0);
        x.voids(0);
        x.said(1, 1);
        x.look(1, 1);
        Due.text(x, 0, 0, ">b;");
        DUE.is("37: take", x.take(2), 3);
        x.said(3, 1);
        x.look(3, 0);
        DUE.is("45: they stay on the list", x.count(7), 4);
        planned("30: whatever comes", x, 1, 0, 0, 0, 0, 0);
    }

    private static void notTwice() {
        SnagBook x = book();
        job(x, 0, 0, 1, 5);
        DUE.is("29: the first of one", x.job(0), -3);
        job(x, 0, 0, 1, 5);
        job(x, 0, 0, 1, 5);
        DUE.is("29: the first of three", x.job(0), -3);
        DUE.is("29: the middle of three", x.job(1), -3);
        DUE.is("29: the last of three", x.job(2), -3);
        x.promise(0, 6);
        DUE.is("29: PROMISED anew, but on it", x.job(0), -3);
        x.plan(1);
        DUE.is("29: not on it any more", x.job(0), 1);
    }

    private static void daysOfTheWeek() {
        for (int bit = 0; bit < 7; bit++) {
            SnagBook x = book();
            x.in(0, 1 << bit);
            job(x, 0, 0, 1, 99);
            planned("30: IN on day " + bit + " of the week", x, 7, 0, bit);
            x.days(bit + 1);
            x.job(0);
            planned("30: the week behind", x, 7, 0, bit + 7);
        }
        SnagBook x = book();
        x.in(0, 0);
        job(x, 0, 0, 3, 99);
        job(x, 1, 1, 4, 99);
        planned("30: a HOME that is never IN", x, 14, 3, NOT, 0);
    }

    private static void firstAndLastDayOfAPlan() {
        SnagBook x = book();
        x.days(3);
        job(x, 0, 0, 1, 3);
        planned("30: TODAY is the first", x, 1, 0, 3);
        x.in(0, 1 << 4);
        x.job(0);
        planned("30: one DAY has TODAY alone", x, 1, 1, NOT);
        x.job(0);
        planned("30: the second of two DAYS", x, 2, 1, 4);
        x = book();
        x.days(1);
        x.in(0, 1);
        job(x, 0, 0, 1, 20);
        planned("30: DAY 7 is the 7th of DAYS 1 to 7", x, 7, 0, 7);
        x.job(0);
        planned("30: six DAYS end ahead of it", x, 6, 1, NOT);
        x = book();
        for (int i = 0; i < 2; i++) {
            x.in(0, 1 << 6);
            job(x, 0, 0, 1, 20);
        }
        planned("30: the 14th DAY", x, 14, 0, 6, 13);
        x.job(0);
        x.job(1);
        planned("30: 13 DAYS end ahead of it", x, 13, 1, 6, NOT);
    }

    private static void dayNineThousand() {
        SnagBook x = book();
        for (int i = 0; i < 27; i++) {
            x.days(360);
        }
        x.days(278);
        for (int i = 0; i < 3; i++) {
            job(x, 0, 0, 1 + i, 9999);
        }
        planned("30: not beyond 9999", x, 3, 1, NOT, 9998, 9999);
        x.days(1);
        x.job(0);
        planned("30: the last DAY", x, 14, 0, 9999);
        x.in(0, 127 - (1 << 9999 % 7));
        x.job(0);
        planned("30: not IN on the last DAY", x, 14, 1, NOT);
    }

    private static void menADay() {
        for (int men = 0; men <= 3; men++) {
            SnagBook x = book();
            x.men(0, men);
            for (int i = 0; i < 3; i++) {
                job(x, i % 2, 0, 1, 9);
            }
            int third = men == 0 ? NOT : men == 1 ? 2 : men == 2 ? 1 : 0;
            int second = men == 0 ? NOT : men == 1 ? 1 : 0;
            planned("30: MEN " + men, x, 5, men == 0 ? 3 : 0, men == 0 ? NOT : 0, second, third);
        }
        SnagBook x = book();
        x.men(3, 0);
        for (int trade = 2; trade < 5; trade++) {
            job(x, 0, trade, 1, 0);
        }
        planned("30: each TRADE has its own", x, 2, 1, 0, NOT, 0);
        x = book();
        x.men(3, 0);
        job(x, 0, 3, 8, 9);
        planned("30: one JOB alone, no MEN for it", x, 14, 8, NOT);
        x.job(0);
        job(x, 0, 4, 1, 9);
        planned("30: no MEN for the first", x, 14, 8, NOT, 0);
        x.job(1);
        x.job(0);
        planned("30: no MEN for the last", x, 14, 8, 0, NOT);
        x = book();
        x.men(9, 9);
        for (int i = 0; i < 7; i++) {
            job(x, 0, 9, 9, 0);
        }
        planned("30: MEN 9", x, 1, 0, 0, 0, 0, 0, 0, 0, 0);
    }

    private static void onThePromisedDay() {
        SnagBook x = book();
        x.in(0, 1 << 2);
        job(x, 0, 0, 5, 2);
        planned("30: on its PROMISED DAY", x, 7, 0, 2);
        x = book();
        x.in(0, 1 << 2);
        job(x, 0, 0, 5, 1);
        planned("30: a DAY behind it", x, 7, 5, 2);
        x = book();
        x.in(0, 1 << 2);
        job(x, 0, 0, 5, 1);
        x.promise(0, 2);
        planned("30: the one told last counts", x, 7, 0, 2);
        x = book();
        x.in(0, 1 << 2);
        job(x, 0, 0, 5, 2);
        x.promise(0, 1);
        planned("30: also if it is the earlier DAY", x, 7, 5, 2);
    }

    private static void pastPromise() {
        SnagBook x = book();
        job(x, 0, 0, 7, 0);
        job(x, 0, 0, 2, 3);
        x.days(3);
        planned("30: one that is past anyway waits, and gets a DAY", x, 14, 7, 4, 3);
    }

    private static void leastWeight() {
        SnagBook x = book();
        job(x, 0, 0, 4, 0);
        job(x, 0, 0, 5, 0);
        planned("30: the lesser SEVERITY is BROKEN", x, 2, 4, 1, 0);
        x = book();
        job(x, 0, 0, 3, 0);
        job(x, 0, 0, 9, 1);
        job(x, 0, 0, 4, 1);
        planned("30: least in all, though the sum of DAYS is like", x, 3, 3, 2, 0, 1);
        x = book();
        x.in(0, 1);
        x.in(1, 2);
        job(x, 0, 0, 9, 0);
        job(x, 1, 0, 9, 1);
        job(x, 1, 1, 9, 0);
        planned("30: weights are of BROKEN ones alone", x, 2, 9, 0, 1, 1);
    }

    private static void mostWithADay() {
        SnagBook x = book();
        x.in(0, 1);
        job(x, 0, 0, 5, 0);
        job(x, 1, 0, 5, 0);
        planned("30: both BROKEN and not, the one with most DAYS", x, 2, 5, 0, 1);
        x = book();
        x.in(1, 1);
        job(x, 0, 0, 5, 0);
        job(x, 1, 0, 5, 0);
        planned("30: though the first of the list is put behind", x, 2, 5, 1, 0);
        x = book();
        job(x, 0, 0, 5, 0);
        job(x, 0, 0, 5, 0);
        job(x, 0, 0, 5, 0);
        planned("30: a greater sum of DAYS for one DAY more", x, 14, 10, 0, 1, 2);
    }

    private static void leastSum() {
        SnagBook x = book();
        x.in(0, 1 + 8);
        job(x, 0, 0, 1, 9);
        job(x, 1, 0, 1, 9);
        planned("30: 0 and 1 are less than 1 and 3", x, 7, 0, 0, 1);
        x = book();
        x.in(0, 2 + 8);
        job(x, 1, 0, 1, 9);
        job(x, 0, 0, 1, 9);
        planned("30: each as early as may be", x, 7, 0, 0, 1);
        x = book();
        x.in(0, 1 + 32);
        x.in(1, 1 + 2);
        job(x, 1, 0, 1, 9);
        job(x, 0, 0, 1, 9);
        planned("30: the first gives way for the lesser sum", x, 7, 0, 1, 0);
    }

    private static void firstInOrder() {
        SnagBook x = book();
        job(x, 0, 0, 2, 9);
        job(x, 0, 0, 9, 9);
        job(x, 0, 0, 1, 9);
        planned("30: in the order of the list", x, 14, 0, 0, 1, 2);
        x = book();
        x.in(1, 1 + 2);
        job(x, 0, 0, 1, 9);
        job(x, 1, 0, 1, 9);
        job(x, 0, 1, 1, 9);
        planned("30: the earlier DAY for the first", x, 14, 0, 0, 1, 0);
    }

    private static void noneLast() {
        SnagBook x = book();
        job(x, 0, 0, 5, 9);
        job(x, 0, 0, 5, 9);
        planned("30: none comes last", x, 1, 5, 0, NOT);
        x = book();
        x.in(0, 2);
        job(x, 0, 0, 5, 0);
        job(x, 0, 0, 5, 0);
        planned("30: all BROKEN, none comes last", x, 3, 10, 1, NOT);
    }

    private static void sevenOnFourteenDays() {
        SnagBook x = book();
        x.in(0, 64);
        for (int i = 0; i < 7; i++) {
            job(x, 0, 0, 9, 13);
        }
        planned("30: two DAYS for seven", x, 14, 45, 6, 13, NOT, NOT, NOT, NOT, NOT);
        x.men(0, 4);
        for (int i = 0; i < 7; i++) {
            x.job(i);
        }
        planned("30: four on the first of them", x, 14, 0, 6, 6, 6, 6, 13, 13, 13);
        x = book();
        x.men(0, 7);
        x.in(0, 64);
        x.days(7);
        for (int i = 0; i < 7; i++) {
            job(x, 0, 0, 9, 7);
        }
        planned("30: all seven BROKEN", x, 7, 63, 13, 13, 13, 13, 13, 13, 13);
    }

    private static void latestPlan() {
        SnagBook x = book();
        DUE.is("31: none yet", x.planned(0), NONE);
        job(x, 0, 0, 1, 9);
        job(x, 0, 0, 1, 9);
        DUE.is("31: none yet, JOBS on the list", x.planned(0), NONE);
        x.plan(2);
        DUE.is("31: JOB 1", x.planned(1), 1);
        x.job(1);
        x.days(5);
        DUE.is("31: the latest plan stays", x.planned(1), 1);
        DUE.is("30: a plan that is refused", x.plan(0), -1);
        DUE.is("31: changes nothing", x.planned(1), 1);
        planned("31: by the latest", x, 1, 0, 5);
    }
}
