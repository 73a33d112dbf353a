import java.util.Random;

/** Promises 28 to 31: by hand, and against trying every plan there is. */
public final class DiaryTest {
    private static final Due DUE = new Due();

    public static void main(String[] args) {
        men();
        jobs();
        plans();
        lastDays();
        againstAllPlans();
        DUE.end("DiaryTest");
    }

    private static void men() {
        SnagBook x = new SnagBook();
        DUE.is("men(-1, 1)", x.men(-1, 1), -1);
        DUE.is("men(10, 1)", x.men(10, 1), -1);
        DUE.is("men(0, -1)", x.men(0, -1), -1);
        DUE.is("men(0, 10)", x.men(0, 10), -1);
        DUE.is("men(9, 9)", x.men(9, 9), 1);
        DUE.is("men(9, 0)", x.men(9, 0), 9);
        DUE.is("men(8, 0)", x.men(8, 0), 1);
    }

    private static SnagBook book(int faults) {
        SnagBook x = new SnagBook();
        x.home(0, 0, 0);
        x.kind(0, 1, 0);
        for (int i = 0; i < faults; i++) {
            x.fault(0, 0, 1 + i % 9, 0);
            x.promise(i, 3);
        }
        return x;
    }

    private static void jobs() {
        SnagBook x = book(9);
        DUE.is("job(9)", x.job(9), -1);
        DUE.is("job(-1)", x.job(-1), -1);
        DUE.is("plan(0)", x.plan(0), -1);
        DUE.is("plan(15)", x.plan(15), -1);
        DUE.is("plan(1) of none", x.plan(1), -3);
        DUE.is("planned(0) ahead of all", x.planned(0), -1);
        x.said(8, 0);
        for (int i = 0; i < 7; i++) {
            DUE.is("job " + i, x.job(i), i + 1);
            DUE.is("JOBS", x.count(7), i + 1);
        }
        DUE.is("job(7)", x.job(7), -2);
        DUE.is("job(6) again", x.job(6), -3);
        DUE.is("job(8), not PROMISED", x.job(8), -3);
        DUE.is("plan(15)", x.plan(15), -1);
        DUE.is("JOBS", x.count(7), 7);
        DUE.is("planned(0) ahead of all", x.planned(0), -1);
        // Four days up to day 3 for seven jobs: those of severities 1, 2 and 3 come behind.
        DUE.is("plan(14)", x.plan(14), 6);
        DUE.is("JOBS", x.count(7), 0);
        int[] want = {4, 5, 6, 0, 1, 2, 3};
        for (int i = 0; i < 7; i++) {
            DUE.is("planned(" + i + ")", x.planned(i), want[i]);
        }
        DUE.is("planned(7)", x.planned(7), -1);
        DUE.is("planned(-1)", x.planned(-1), -1);
        DUE.is("plan(1) of none", x.plan(1), -3);
        DUE.is("planned(6) stays", x.planned(6), 3);
        x.job(3);
        DUE.is("planned(6) stays", x.planned(6), 3);
        x.plan(1);
        DUE.is("planned(1) by the latest", x.planned(1), -1);
    }

    private static void plans() {
        SnagBook x = book(3);
        x.job(0);
        x.job(1);
        x.job(2);
        x.voids(0);
        x.promise(1, 0);
        DUE.is("a VOID one stays, the last promise counts", x.plan(2), 1);
        DUE.is("planned(0)", x.planned(0), -4);
        DUE.is("planned(1)", x.planned(1), 0);
        DUE.is("planned(2)", x.planned(2), 1);
        x.men(0, 0);
        x.job(2);
        DUE.is("no MEN", x.plan(14), 3);
        DUE.is("planned(0)", x.planned(0), -4);
        x.men(0, 1);
        x.in(0, 4);
        x.job(2);
        DUE.is("IN on day 2", x.plan(14), 0);
        DUE.is("planned(0)", x.planned(0), 2);
        x.days(3);
        x.job(2);
        DUE.is("IN on day 9, behind", x.plan(14), 3);
        DUE.is("planned(0)", x.planned(0), 9);
        x.job(2);
        DUE.is("not IN", x.plan(6), 3);
        DUE.is("planned(0)", x.planned(0), -4);
    }

    private static void lastDays() {
        SnagBook x = book(3);
        for (int i = 0; i < 27; i++) {
            x.days(360);
        }
        x.days(278);
        x.promise(0, 9999);
        x.promise(1, 9999);
        x.promise(2, 9999);
        x.job(0);
        x.job(1);
        x.job(2);
        DUE.is("not beyond 9999", x.plan(14), 1);
        DUE.is("planned(0)", x.planned(0), -4);
        DUE.is("planned(1)", x.planned(1), 9998);
        DUE.is("planned(2)", x.planned(2), 9999);
    }

    private static void againstAllPlans() {
        Random random = new Random(7);
        for (int run = 0; run < 3000; run++) {
            SnagBook x = new SnagBook();
            int today = random.nextInt(20);
            if (today > 0) {
                x.days(today);
            }
            int[] bits = new int[3];
            int[] men = new int[3];
            for (int i = 0; i < 3; i++) {
                bits[i] = random.nextInt(128) | random.nextInt(128);
                men[i] = random.nextInt(4);
                x.home(i, 0, 0);
                x.in(i, bits[i]);
                x.kind(i, 1, 0);
                x.men(i, men[i]);
            }
            int many = 1 + random.nextInt(7);
            // Every plan is tried, so many jobs go with fewer days.
            int days = 1 + random.nextInt(many > 5 ? 4 : many > 3 ? 7 : 14);
            Jobs jobs = new Jobs(many, today, days, men);
            for (int i = 0; i < jobs.size; i++) {
                int home = random.nextInt(3);
                jobs.bits[i] = bits[home];
                jobs.trade[i] = random.nextInt(3);
                jobs.severity[i] = 1 + random.nextInt(run % 2 == 0 ? 3 : 9);
                jobs.until[i] = today + random.nextInt(days + 2);
                x.fault(12 * home + i, jobs.trade[i], jobs.severity[i], 0);
                x.promise(i, jobs.until[i]);
                x.job(i);
            }
            jobs.search(0);
            DUE.is("run " + run + " plan", x.plan(days), jobs.bestWeight);
            for (int i = 0; i < jobs.size; i++) {
                int want = jobs.best[i] == days ? -4 : today + jobs.best[i];
                DUE.is("run " + run + " planned " + i, x.planned(i), want);
            }
        }
    }

    /** Tries every plan in order and keeps the first of the best ones; the answer behind all days is none. */
    private static final class Jobs {
        final int size;
        final int today;
        final int days;
        final int[] men;
        final int[] bits;
        final int[] trade;
        final int[] severity;
        final int[] until;
        final int[] now;
        int[] best;
        int bestWeight;
        int bestMany;
        int bestSum;

        Jobs(int size, int today, int days, int[] men) {
            this.size = size;
            this.today = today;
            this.days = days;
            this.men = men;
            bits = new int[size];
            trade = new int[size];
            severity = new int[size];
            until = new int[size];
            now = new int[size];
        }

        void search(int job) {
            if (job == size) {
                weigh();
                return;
            }
            for (int d = 0; d <= days; d++) {
                now[job] = d;
                if (d == days || fits(job, d)) {
                    search(job + 1);
                }
            }
        }

        private boolean fits(int job, int d) {
            int busy = 0;
            for (int i = 0; i < job; i++) {
                busy += now[i] == d && trade[i] == trade[job] ? 1 : 0;
            }
            return busy < men[trade[job]] && (bits[job] >> (today + d) % 7 & 1) == 1;
        }

        private void weigh() {
            int weight = 0;
            int many = 0;
            int sum = 0;
            for (int i = 0; i < size; i++) {
                boolean none = now[i] == days;
                weight += none || today + now[i] > until[i] ? severity[i] : 0;
                many += none ? 0 : 1;
                sum += none ? 0 : today + now[i];
            }
            boolean better = best == null || weight < bestWeight
                || (weight == bestWeight && (many > bestMany || (many == bestMany && sum < bestSum)));
            if (better) {
                best = now.clone();
                bestWeight = weight;
                bestMany = many;
                bestSum = sum;
            }
        }
    }
}
