import java.util.Random;

/** Calls by chance on the class and on the slow book side by side: most promises, as they play together. */
public final class ModelTest {
    private static final Due DUE = new Due();
    private static final String[] WARRANTIES = {">b;", ">h9;", "n=1>c5;>w9;", "y<1>b;n=0&y<2>w50;", "g=2>v;d=1>c;>b3;",
        "o+1&f=2>w;o=0>b20;t=1>c30;", "k!0&s+5>w100;d=1>c1;g=1>h;>b;", "s<3&n=1>b9999;y+1>h;o=1>v;>b7;", "f!1&d=0>b;"};
    private static final String[] FREEINGS = {"r/3", "q*5+y", "x:100*x;b:50;1", "b+q*0"};
    private final Random random;
    private final String run;
    private final SnagBook x = new SnagBook();
    private final SlowBook y = new SlowBook();

    private ModelTest(int seed) {
        random = new Random(seed);
        run = "run " + seed + " ";
    }

    public static void main(String[] args) {
        int runs = args.length == 1 ? Integer.parseInt(args[0]) : 150;
        for (int seed = 0; seed < runs; seed++) {
            ModelTest t = new ModelTest(seed);
            t.start();
            for (int i = 0; i < 220; i++) {
                t.change();
                if (i % 8 == 0) {
                    t.ask();
                }
            }
            t.askAll();
        }
        DUE.end("ModelTest");
    }

    private int pick(int below) {
        return random.nextInt(below);
    }

    private void is(String call, int got, int want) {
        DUE.is(run + call + " on day " + y.today, got, want);
    }

    private void start() {
        int homes = 2 + pick(6);
        for (int i = 0; i < homes; i++) {
            addHome();
        }
        for (int i = 0; i < 3; i++) {
            int[] k = {pick(3), 1 + pick(40), pick(8)};
            x.kind(k[0], k[1], k[2]);
            y.kind(k[0], k[1], k[2]);
        }
    }

    private void addHome() {
        int[] h = {100 * pick(3) + pick(100), pick(200), pick(3)};
        is("home", x.home(h[0], h[1], h[2]), y.homes.size());
        y.home(h[0], h[1], h[2]);
    }

    private int anyFault() {
        return Math.max(0, y.faults.size() - 1 - pick(Math.min(12, y.faults.size())));
    }

    private void change() {
        int home = pick(y.homes.size());
        if (y.faults.isEmpty() || pick(6) == 0) {
            int[] f = {12 * home + 4 * pick(3), pick(y.kinds.size()), 1 + pick(9), pick(3) == 0 ? 10 : pick(4)};
            is("fault", x.fault(f[0], f[1], f[2], f[3]), y.fault(f[0], f[1], f[2], f[3]));
            return;
        }
        switch (pick(16)) {
            case 0: case 1: case 2: days(); break;
            case 3: key(home); break;
            case 4: sell(home); break;
            case 5: crew(home); break;
            case 6: case 7: promise(anyFault()); break;
            case 8: case 9: said(anyFault()); break;
            case 10: look(); break;
            case 11: changeSeldom(anyFault()); break;
            case 12: case 13: read(anyFault()); break;
            case 14: take(anyFault()); break;
            default: money(home); break;
        }
    }

    private void days() {
        int n = pick(12) == 0 ? 1 + pick(360) : 1 + pick(6);
        y.today += n;
        is("days", x.days(n), y.today);
    }

    private void key(int home) {
        int kept = pick(3000);
        SlowBook.Home h = y.homes.get(home);
        is("key " + home, x.key(home, kept), h.keyDay < 0 ? 1 : -3);
        h.kept = h.keyDay < 0 ? kept : h.kept;
        h.keyDay = h.keyDay < 0 ? y.today : h.keyDay;
    }

    private void sell(int home) {
        SlowBook.Home h = y.homes.get(home);
        if (h.keyDay >= 0 && h.sales.size() < 20) {
            h.sales.add(y.today);
            is("sell " + home, x.sell(home), h.sales.size());
        } else {
            is("sell " + home, x.sell(home), h.keyDay < 0 ? -3 : -2);
        }
    }

    private void crew(int home) {
        int trade = pick(3);
        int crew = pick(4) - 1;
        is("crew", x.crew(home, trade, crew), y.homes.get(home).crews[trade]);
        y.homes.get(home).crews[trade] = crew;
    }

    private void promise(int fault) {
        int day = y.today + pick(8);
        is("promise " + fault, x.promise(fault, day), y.step(fault, 1, -1, day, false));
    }

    private void said(int fault) {
        int crew = pick(3);
        is("said " + fault, x.said(fault, crew), y.step(fault, 2, crew, -1, false));
    }

    private void look() {
        int crew = pick(3);
        int drawn = y.draw(crew);
        is("draw " + crew, x.draw(crew), drawn);
        int fault = drawn < 0 ? anyFault() : drawn;
        int good = pick(2);
        is("look " + fault, x.look(fault, good), y.step(fault, good == 1 ? 3 : 0, -1, -1, true));
    }

    private void changeSeldom(int fault) {
        int v = pick(61);
        switch (pick(6)) {
            case 0: is("rule 0", x.rule(0, v), y.span); y.span = v; break;
            case 1: is("rule 1", x.rule(1, 3 * v), y.low); y.low = 3 * v; break;
            case 2: y.z = random.nextInt(); x.lots(y.z); break;
            case 3: addSometimes(); break;
            default: is("voids " + fault, x.voids(fault), y.step(fault, 4, -1, -1, false)); break;
        }
    }

    private void addSometimes() {
        if (y.homes.size() < 12) {
            addHome();
        }
    }

    private void read(int fault) {
        SlowBook.Fault f = y.faults.get(fault);
        int width = pick(60);
        int many = f.readings.size();
        int want = many + 1;
        if ((y.kinds.get(f.kind).flags & 2) == 0) {
            want = -1;
        } else if (many > 0 && f.readings.get(many - 1).day() == y.today) {
            want = -3;
        } else if (many == 12) {
            want = -2;
        } else {
            f.readings.add(new SlowBook.Reading(y.today, width));
        }
        is("read " + fault, x.read(fault, width), want);
    }

    private void take(int fault) {
        is("take " + fault, x.take(fault), y.take(fault));
    }

    private void money(int home) {
        int what = pick(2);
        if (pick(3) == 0 && y.texts.get(what).size() < 10) {
            String text = what == 0 ? WARRANTIES[pick(WARRANTIES.length)] : FREEINGS[pick(FREEINGS.length)];
            int from = pick(3) == 0 ? pick(1 + 2 * y.today) : 0;
            is("text", Due.text(x, what, from, text), y.texts.get(what).size());
            y.texts.get(what).add(new SlowBook.Made(text, y.today, from));
            return;
        }
        SlowBook.Home h = y.homes.get(home);
        int given = x.free(home);
        is("free " + home, given, h.keyDay < 0 ? -3 : Math.max(0, Math.min(h.kept, freed(home))));
        h.kept -= Math.max(0, given);
        h.freed += Math.max(0, given);
    }

    private int freed(int home) {
        int force = y.inForce(1, home, y.today);
        int q = y.ofHome(home, 7);
        int falsely = y.ofHome(home, 8);
        int broken = y.ofHome(home, 9);
        SlowBook.Home h = y.homes.get(home);
        String text = force < 0 ? "" : y.texts.get(1).get(force).text();
        return switch (text) {
            case "r/3" -> h.kept / 3;
            case "q*5+y" -> q * 5 + y.today - h.keyDay;
            case "x:100*x;b:50;1" -> falsely != 0 ? 100 * falsely : broken != 0 ? 50 : 1;
            case "b+q*0" -> 0;
            default -> 0;
        };
    }

    private void ask() {
        for (int i = 0; i < 6; i++) {
            askFault(anyFault());
        }
        int home = pick(y.homes.size());
        for (int what = 0; what < 13; what++) {
            is("ofHome " + home + " " + what, x.ofHome(home, what), y.ofHome(home, what));
        }
        askKind(pick(y.kinds.size()), pick(y.today + 3), 1 + pick(9999));
    }

    private void askFault(int fault) {
        SlowBook.Fault f = y.faults.get(fault);
        int day = pick(3) == 0 ? pick(y.today + 4) : y.today;
        int near = Math.max(0, f.day - 1 + pick(12));
        for (int what = 0; what < 14; what++) {
            is("ofFault " + fault + " " + what, x.ofFault(fault, what), y.ofFault(fault, what));
        }
        int[] judged = y.judge(f);
        for (int what = 0; what < 4; what++) {
            is("judge " + fault + " " + what, x.judge(fault, what), judged[what]);
        }
        is("state " + fault + " " + day, x.state(fault, day), f.on(day));
        is("state " + fault + " " + near, x.state(fault, near), f.on(near));
        is("source " + fault + " " + day, x.source(fault, day), y.source(fault, day));
        is("source " + fault + " " + near, x.source(fault, near), y.source(fault, near));
        is("damage " + fault, x.damage(fault), y.damage(f)[0]);
        boolean crack = (y.kinds.get(f.kind).flags & 2) != 0;
        is("gauge " + fault + " " + day, x.gauge(fault, day), crack ? y.gauge(f, day) : -1);
        for (int i = 0; i < 12; i++) {
            boolean is = i + 1 < f.readings.size();
            int pace = is ? SlowBook.pace(f.readings.get(i), f.readings.get(i + 1)) : -2000000000;
            is("pace " + fault + " " + i, x.pace(fault, i), pace);
        }
    }

    private void askKind(int kind, int day, int p) {
        long has = y.joinedBits(kind, day);
        for (int g = 0; g <= 30; g++) {
            if (g != 8 && g != 9) {
                long in = y.group(kind, g);
                is("joined " + g, x.joined(kind, g, day, 0), Long.bitCount(has));
                is("joined " + g, x.joined(kind, g, day, 1), Long.bitCount(has & in));
                is("joined " + g, x.joined(kind, g, day, 2), Long.bitCount(in));
                is("chance " + g, x.chance(kind, g, day), y.chance(kind, g, day));
            }
        }
        is("cause " + p, x.cause(kind, day, p), y.cause(kind, day, p));
        is("rivals " + p, x.rivals(kind, day, p), y.rivals(kind, day, p));
    }

    private void askAll() {
        for (int i = 0; i < y.faults.size(); i++) {
            askFault(i);
        }
        for (int home = 0; home < y.homes.size(); home++) {
            for (int what = 0; what < 2; what++) {
                int k = pick(y.today + 2);
                is("inForce " + home, x.inForce(what, home, k), y.inForce(what, home, k));
            }
        }
        for (int i = 0; i < 8; i++) {
            int day = pick(y.today + 2);
            is("weight", x.weight(i, day), y.weight(i, day));
            is("worst", x.worst(i, day), y.worst(i, day));
            for (int what = 0; what < 3; what++) {
                is("sinking " + i + " " + what, x.sinking(i, what), y.sinking(i, what));
            }
            for (int what = 0; what < 4; what++) {
                is("ofCrew " + i + " " + what, x.ofCrew(i, what), y.ofCrew(i, what));
            }
        }
        for (int a = 0; a < 4; a++) {
            for (int b = 0; b < 4; b++) {
                for (int what = 0; what < 6 && a != b; what++) {
                    is("doubles " + a + " " + b + " " + what, x.doubles(a, b, what), y.doubles(a, b, what));
                }
            }
        }
        int[] sums = new int[4];
        for (SlowBook.Home h : y.homes) {
            sums[0] += h.kept;
            sums[1] += h.freed;
            sums[2] += h.taken;
            sums[3] += h.keyDay >= 0 ? 1 : 0;
        }
        for (int i = 0; i < 4; i++) {
            is("count " + (8 + i), x.count(8 + i), sums[i]);
        }
    }
}
