import java.util.Arrays;
import java.util.Random;

/** Calls by chance, sound and wild: none throws, what is refused changes nothing, the same calls answer the same. */
public final class RefusalsTest {
    private static final int[] WILD = {Integer.MIN_VALUE, -2000000000, -100, -1, 0, 1, 8, 9, 10, 40, 160, 200, 800, 9999,
        10000, 100000, Integer.MAX_VALUE};
    private static final String[] TEXTS = {">b;", "n=1>c5;>w9;", "y<1>b;", "q*5", "r/3;", "y:r/2;x", "g=2>v;d=1>c;>b3;"};
    private static final Due DUE = new Due();
    private static int refusals;

    public static void main(String[] args) {
        for (int run = 0; run < 60; run++) {
            long first = play(run, false);
            long second = play(run, true);
            DUE.is("run " + run + " again", Long.compare(first, second), 0);
        }
        DUE.is("refusals come at all", refusals > 2000 ? 1 : 0, 1);
        DUE.end("RefusalsTest");
    }

    private static long play(int seed, boolean watch) {
        Random random = new Random(seed);
        SnagBook x = new SnagBook();
        long sum = 0;
        for (int i = 0; i < 400; i++) {
            int call = random.nextInt(43);
            int[] a = arguments(random, call, x, i);
            String text = TEXTS[random.nextInt(TEXTS.length)];
            int[] before = watch ? Probe.asked(x) : null;
            int answer = call == 42 ? Due.feed(x, text) : call(x, call, a);
            sum = sum * 31 + answer;
            boolean refused = (answer < 0 && answer >= -5 || answer == -2000000000) && call != 4 && call < 22;
            if (watch && refused) {
                refusals++;
                DUE.is("run " + seed + " call " + i + " of sort " + call + ", refused", Arrays.equals(before, Probe.asked(x)) ? 1 : 0, 1);
            }
        }
        return sum;
    }

    private static int[] arguments(Random random, int call, SnagBook x, int done) {
        int[] a = new int[4];
        for (int i = 0; i < 4; i++) {
            int bound = random.nextInt(4) == 0 ? 1000 : 8;
            a[i] = random.nextInt(12) == 0 ? WILD[random.nextInt(WILD.length)] : random.nextInt(bound);
        }
        boolean tame = random.nextInt(10) > 0;
        if (tame && call == 1) {
            a[0] = random.nextInt(800);
            a[1] = random.nextInt(200);
        }
        if (tame && call == 6) {
            a[0] = random.nextInt(60);
            a[1] = random.nextInt(3);
            a[2] = 1 + random.nextInt(9);
            a[3] = random.nextInt(11);
        }
        if (tame && call == 7) {
            a[1] += x.count(3);
        }
        if (call == 0 && done > 20 && random.nextBoolean()) {
            a[0] = 1 + random.nextInt(3);
        }
        return a;
    }

    private static int call(SnagBook x, int call, int[] a) {
        switch (call) {
            case 0: return x.days(a[0]);
            case 1: return x.home(a[0], a[1], a[2]);
            case 2: return x.key(a[0], a[1]);
            case 3: return x.sell(a[0]);
            case 4: return x.crew(a[0], a[1], a[2]);
            case 5: return x.kind(a[0], a[1], a[2]);
            case 6: return x.fault(a[0], a[1], a[2], a[3]);
            case 7: return x.promise(a[0], a[1]);
            case 8: return x.said(a[0], a[1]);
            case 9: return x.look(a[0], a[1]);
            case 10: return x.voids(a[0]);
            case 11: return x.rule(a[0], a[1]);
            case 12: return x.read(a[0], a[1]);
            case 13: return x.men(a[0], a[1]);
            case 14: return x.job(a[0]);
            case 15: return x.plan(a[0]);
            case 16: return x.feed(a[0], a[1]);
            case 17: return x.text(a[0] & 1, a[1]);
            case 18: return x.free(a[0]);
            case 19: return x.take(a[0]);
            case 20: return x.draw(a[0]);
            case 21: return x.in(a[0], a[1]);
            default: return ask(x, call, a);
        }
    }

    private static int ask(SnagBook x, int call, int[] a) {
        switch (call) {
            case 22: return x.ofHome(a[0], a[1]);
            case 23: return x.state(a[0], a[1]);
            case 24: return x.ofFault(a[0], a[1]);
            case 25: return x.source(a[0], a[1]);
            case 26: return x.damage(a[0]);
            case 27: return x.joined(a[0], a[1], a[2], a[3]);
            case 28: return x.chance(a[0], a[1], a[2]);
            case 29: return x.cause(a[0], a[1], a[2]);
            case 30: return x.rivals(a[0], a[1], a[2]);
            case 31: return x.gauge(a[0], a[1]);
            case 32: return x.pace(a[0], a[1]);
            case 33: return x.sinking(a[0], a[1]);
            case 34: return x.planned(a[0]);
            case 35: return x.inForce(a[0], a[1], a[2]);
            case 36: return x.judge(a[0], a[1]);
            case 37: return x.doubles(a[0], a[1], a[2]);
            case 38: return x.lots(a[0]);
            case 39: return x.ofCrew(a[0], a[1]);
            case 40: return x.bounds(a[0], a[1], a[2]);
            default: return x.worst(a[0], a[1]) + x.weight(a[0], a[1]) + x.count(a[2]);
        }
    }
}
