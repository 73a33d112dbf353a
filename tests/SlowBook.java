import java.math.BigInteger;
import java.util.ArrayList;
import java.util.List;
import java.util.regex.Matcher;
import java.util.regex.Pattern;

/**
 * A second reading of the document for the tests: it keeps what came as a plain log and works every answer out anew.
 * It takes sound arguments only; plan, text faults and refusals by wrong numbers have tests of their own.
 */
final class SlowBook {
    static final class Home {
        int street, plot, ground, batch, keyDay = -1, kept, freed, taken;
        final List<Integer> sales = new ArrayList<>();
        final int[] crews = new int[10];
    }

    static final class Kind {
        int trade, rate, flags;
    }

    /** One state: its day, the state, the crew that said it, up to when it was promised. */
    record Step(int day, int state, int crew, int until) {
    }

    record Reading(int day, int width) {
    }

    record Made(String text, int day, int from) {
    }

    static final class Fault {
        int number, home, room, kind, severity, eye, day;
        boolean listed, old;
        final List<Step> steps = new ArrayList<>();
        final List<Reading> readings = new ArrayList<>();

        int now() {
            return steps.get(steps.size() - 1).state();
        }

        int on(int day) {
            return steps.stream().filter(s -> s.day() <= day).reduce((a, b) -> b).map(Step::state).orElse(-4);
        }

        boolean left(int day) {
            return on(day) >= 0 && on(day) <= 2;
        }
    }

    int today;
    int span = 14;
    int low = 100;
    int z = 1;
    final List<Home> homes = new ArrayList<>();
    final List<Kind> kinds = new ArrayList<>();
    final List<Fault> faults = new ArrayList<>();
    final List<List<Made>> texts = List.of(new ArrayList<>(), new ArrayList<>());

    void home(int where, int ground, int batch) {
        Home h = new Home();
        h.street = where / 100;
        h.plot = where % 100;
        h.ground = ground;
        h.batch = batch;
        java.util.Arrays.fill(h.crews, -1);
        homes.add(h);
    }

    void kind(int trade, int rate, int flags) {
        Kind k = new Kind();
        k.trade = trade;
        k.rate = rate;
        k.flags = flags;
        kinds.add(k);
    }

    int fault(int where, int kind, int severity, int eye) {
        Fault f = new Fault();
        f.number = faults.size();
        f.home = where / 12;
        f.room = where % 12;
        f.kind = kind;
        f.severity = severity;
        f.eye = eye;
        f.day = today;
        int key = homes.get(f.home).keyDay;
        f.listed = key < 0 || today <= key;
        f.old = f.listed || faults.stream().anyMatch(g -> g.home == f.home && g.room == f.room && g.kind == kind
            && g.now() != 4 && (g.listed || g.now() != 3));
        f.steps.add(new Step(today, 0, -1, -1));
        faults.add(f);
        return f.number;
    }

    /** One more state of an open or promised one (or, of a look, of a said one). */
    int step(int fault, int state, int crew, int until, boolean look) {
        Fault f = faults.get(fault);
        boolean fits = look ? f.now() == 2 : f.now() <= 1;
        if (!fits) {
            return -3;
        }
        if (f.steps.size() == 30) {
            return -2;
        }
        f.steps.add(new Step(today, state, crew, until));
        return 1;
    }

    /** What the promise is, how many were moved, how many are broken. */
    int[] promises(Fault f) {
        int is = 0;
        int until = -1;
        int moved = 0;
        int broken = 0;
        int before = -1;
        for (Step s : f.steps) {
            is = is == 1 && s.day() > until ? 3 : is;
            if (s.state() == 1) {
                moved += is == 1 ? 1 : 0;
                broken += is == 3 ? 1 : 0;
                is = 1;
                until = s.until();
            } else if (is == 1 && s.state() == 2) {
                is = 2;
            } else if (is == 1 && (s.state() == 4 || (s.state() == 3 && before != 2))) {
                is = 0;
            }
            before = s.state();
        }
        is = is == 1 && today > until ? 3 : is;
        return new int[] {is, moved, broken + (is == 3 ? 1 : 0)};
    }

    int said(Fault f, int crew) {
        return (int) f.steps.stream().filter(s -> s.state() == 2 && (crew < 0 || s.crew() == crew)).count();
    }

    int looked(Fault f, int crew, int found) {
        int many = 0;
        for (int i = 1; i < f.steps.size(); i++) {
            Step s = f.steps.get(i - 1);
            boolean look = s.state() == 2 && (crew < 0 || s.crew() == crew);
            many += look && (found < 0 || f.steps.get(i).state() == found) ? 1 : 0;
        }
        return many;
    }

    int lastCrew(Fault f) {
        return f.steps.stream().filter(s -> s.state() == 2).reduce((a, b) -> b).map(Step::crew).orElse(-1);
    }

    int price(Fault f) {
        int plain = kinds.get(f.kind).rate * f.severity;
        return f.room >= 8 ? (plain * 3 + 1) / 2 : plain;
    }

    int source(int fault, int day) {
        Fault f = faults.get(fault);
        if (f.day > day) {
            return -1;
        }
        if ((kinds.get(f.kind).flags & 4) == 0) {
            return fault;
        }
        return faults.stream().filter(g -> g.home == f.home && g.room == f.room + 4 && (kinds.get(g.kind).flags & 1) != 0)
            .filter(g -> g.left(day)).findFirst().map(g -> source(g.number, day)).orElse(fault);
    }

    /** The fault that did the damage and its crew. */
    int[] damage(Fault f) {
        int[] found = {-4, -1};
        int best = -1;
        for (Fault g : faults) {
            for (Step s : g.steps) {
                int behind = f.day - s.day();
                boolean near = g.home == f.home && g.room == f.room && g.kind != f.kind && behind >= 1 && behind <= span;
                if (near && s.state() == 2 && s.day() * 1000 + g.number >= best) {
                    best = s.day() * 1000 + g.number;
                    found = new int[] {g.number, s.crew()};
                }
            }
        }
        return found;
    }

    boolean with(int home, int kind, int day) {
        return faults.stream().anyMatch(f -> f.home == home && f.kind == kind && f.on(day) != -4 && f.on(day) != 4);
    }

    /** A group's homes, as bits. */
    long group(int kind, int group) {
        long bits = 0;
        for (int i = 0; i < homes.size(); i++) {
            Home h = homes.get(i);
            int[] of = {h.street, h.crews[kinds.get(kind).trade], h.batch, h.ground < low ? 0 : -1};
            bits |= of[group / 10] == group % 10 ? 1L << i : 0;
        }
        return bits;
    }

    long joinedBits(int kind, int day) {
        long bits = 0;
        for (int i = 0; i < homes.size(); i++) {
            bits |= with(i, kind, day) ? 1L << i : 0;
        }
        return bits;
    }

    static BigInteger choose(int n, int k) {
        if (k < 0 || k > n) {
            return BigInteger.ZERO;
        }
        return k == 0 ? BigInteger.ONE : choose(n - 1, k - 1).multiply(BigInteger.valueOf(n)).divide(BigInteger.valueOf(k));
    }

    int chance(int kind, int group, int day) {
        long in = group(kind, group);
        long has = joinedBits(kind, day);
        int n = Long.bitCount(in);
        int all = homes.size();
        int marked = Long.bitCount(has);
        if (n == 0) {
            return 10000;
        }
        BigInteger good = BigInteger.ZERO;
        for (int b = Long.bitCount(in & has); b <= n; b++) {
            good = good.add(choose(marked, b).multiply(choose(all - marked, n - b)));
        }
        BigInteger[] parts = good.multiply(BigInteger.valueOf(10000)).divideAndRemainder(choose(all, n));
        return parts[0].intValue() + parts[1].signum();
    }

    int cause(int kind, int day, int p) {
        int best = -4;
        for (int g = 0; g <= 30; g++) {
            boolean is = g != 8 && g != 9 && chance(kind, g, day) < (best < 0 ? p : chance(kind, best, day));
            best = is ? g : best;
        }
        return best;
    }

    int rivals(int kind, int day, int p) {
        int cause = cause(kind, day, p);
        int many = 0;
        for (int g = 0; g <= 30 && cause >= 0; g++) {
            many += g != 8 && g != 9 && chance(kind, g, day) < p && group(kind, g) != group(kind, cause) ? 1 : 0;
        }
        return cause < 0 ? -4 : many;
    }

    static int pace(Reading a, Reading b) {
        return (b.width() - a.width()) * 1000 / (b.day() - a.day());
    }

    int gauge(Fault f, int day) {
        List<Reading> r = f.readings.stream().filter(x -> x.day() <= day).toList();
        if (r.size() < 3) {
            return 0;
        }
        int[] p = new int[r.size() - 1];
        boolean drying = true;
        boolean unlike = false;
        for (int i = 0; i < p.length; i++) {
            p[i] = pace(r.get(i), r.get(i + 1));
            drying &= p[i] >= 0 && (i == 0 || p[i] <= p[i - 1]);
        }
        for (int i = 0; i < p.length; i++) {
            for (int j = 0; j < p.length; j++) {
                boolean wet = r.get(i + 1).day() / 30 % 12 <= 5;
                boolean dry = r.get(j + 1).day() / 30 % 12 >= 6;
                unlike |= wet && dry && Integer.signum(p[i]) * Integer.signum(p[j]) == -1;
            }
        }
        int last = p[p.length - 1];
        if (drying && last * 4L <= p[0]) {
            return 1;
        }
        return unlike || (last > p[0] && last > 0) ? 2 : 0;
    }

    int inForce(int what, int home, int k) {
        int key = homes.get(home).keyDay;
        int found = -4;
        for (int i = 0; i < texts.get(what).size(); i++) {
            Made t = texts.get(what).get(i);
            found = t.day() <= k && t.from() <= key ? i : found;
        }
        return key < 0 ? -1 : found;
    }

    private static boolean holds(int v, char sign, int number) {
        return sign == '<' ? v < number : sign == '=' ? v == number : sign == '!' ? v != number : v >= number;
    }

    private int fact(Fault f, char name) {
        Home h = homes.get(f.home);
        return switch (name) {
            case 'y' -> (f.day - h.keyDay) / 360;
            case 'k' -> f.kind;
            case 't' -> kinds.get(f.kind).trade;
            case 's' -> f.severity;
            case 'n' -> f.old ? 0 : 1;
            case 'o' -> (int) h.sales.stream().filter(s -> s <= f.day).count();
            case 'g' -> (kinds.get(f.kind).flags & 2) == 0 ? 0 : gauge(f, today);
            case 'd' -> damage(f)[0] < 0 ? 0 : 1;
            default -> f.room / 4;
        };
    }

    int[] judge(Fault f) {
        int price = price(f);
        int key = homes.get(f.home).keyDay;
        if (key < 0 || f.day < key) {
            return new int[] {0, 0, price, -1};
        }
        int force = inForce(0, f.home, today);
        String[] lines = force < 0 ? new String[0] : texts.get(0).get(force).text().split(";");
        for (int i = 0; i < lines.length; i++) {
            int cut = lines[i].indexOf('>');
            boolean all = true;
            Matcher m = Pattern.compile("([a-z])([<=!+])(\\d+)").matcher(lines[i].substring(0, cut));
            while (m.find()) {
                all &= holds(fact(f, m.group(1).charAt(0)), m.group(2).charAt(0), Integer.parseInt(m.group(3)));
            }
            if (all) {
                String number = lines[i].substring(cut + 2);
                return paid(f, lines[i].charAt(cut + 1), number.isEmpty() ? 0 : Integer.parseInt(number), i);
            }
        }
        return new int[] {2, price, 0, -1};
    }

    private int[] paid(Fault f, char who, int excess, int line) {
        int price = price(f);
        int own = Math.min(excess, price);
        int charged = damage(f)[1];
        int crew = charged >= 0 ? charged : homes.get(f.home).crews[kinds.get(f.kind).trade];
        return switch (who) {
            case 'h' -> new int[] {2, price, 0, line};
            case 'v' -> new int[] {3, 0, 0, line};
            case 'w' -> new int[] {1, own, price - own, line};
            case 'c' -> new int[] {crew < 0 ? 0 : 10 + crew, own, price - own, line};
            default -> new int[] {0, own, price - own, line};
        };
    }

    int take(int fault) {
        Fault f = faults.get(fault);
        Home h = homes.get(f.home);
        int[] judged = judge(f);
        if (f.now() > 1 || f.steps.size() == 30 || judged[0] != 0 || judged[2] > h.kept) {
            return -3;
        }
        h.kept -= judged[2];
        h.taken += judged[2];
        f.steps.add(new Step(today, 3, -1, -1));
        return judged[2];
    }

    int ofHome(int home, int what) {
        Home h = homes.get(home);
        List<Fault> own = faults.stream().filter(f -> f.home == home).toList();
        return switch (what) {
            case 0 -> h.street;
            case 1 -> h.plot;
            case 2 -> h.ground;
            case 3 -> h.batch;
            case 4 -> h.keyDay;
            case 5 -> h.sales.size();
            case 6 -> own.size();
            case 7 -> (int) own.stream().filter(f -> f.now() <= 2).count();
            case 8 -> own.stream().mapToInt(f -> looked(f, -1, 0)).sum();
            case 9 -> own.stream().mapToInt(f -> promises(f)[2]).sum();
            case 10 -> h.kept;
            case 11 -> h.freed;
            default -> h.taken;
        };
    }

    int ofFault(int fault, int what) {
        Fault f = faults.get(fault);
        return switch (what) {
            case 0 -> f.home;
            case 1 -> f.room;
            case 2 -> f.kind;
            case 3 -> f.severity;
            case 4 -> f.day;
            case 5 -> f.eye;
            case 6 -> f.listed ? 1 : 0;
            case 7 -> f.old ? 0 : 1;
            case 8 -> price(f);
            case 9 -> promises(f)[0];
            case 10 -> promises(f)[1];
            case 11 -> said(f, -1);
            case 12 -> looked(f, -1, 0);
            default -> lastCrew(f);
        };
    }

    int ofCrew(int crew, int what) {
        return switch (what) {
            case 0 -> faults.stream().mapToInt(f -> said(f, crew)).sum();
            case 1 -> faults.stream().mapToInt(f -> looked(f, crew, -1)).sum();
            case 2 -> faults.stream().mapToInt(f -> looked(f, crew, 0)).sum();
            default -> (int) faults.stream().filter(f -> damage(f)[1] == crew).count();
        };
    }

    int sinking(int street, int what) {
        int[] plots = faults.stream().filter(f -> homes.get(f.home).street == street && f.now() <= 2)
            .filter(f -> (kinds.get(f.kind).flags & 2) != 0 && gauge(f, today) == 2)
            .mapToInt(f -> f.home).distinct().map(i -> homes.get(i).plot).sorted().toArray();
        if (what == 0) {
            return plots.length;
        }
        return plots.length == 0 ? -1 : what == 1 ? plots[0] : plots[plots.length - 1];
    }

    int doubles(int a, int b, int what) {
        int[] sums = new int[6];
        for (int home = 0; home < homes.size(); home++) {
            Fault[][] first = new Fault[2][12 * 20];
            boolean[] told = new boolean[2];
            for (Fault f : faults) {
                int side = f.eye == a ? 0 : f.eye == b ? 1 : -1;
                if (f.home == home && f.listed && side >= 0) {
                    int place = 12 * f.kind + f.room;
                    told[side] = true;
                    first[side][place] = first[side][place] == null ? f : first[side][place];
                }
            }
            for (int i = 0; i < 240 && told[0] && told[1]; i++) {
                boolean one = first[0][i] != null;
                boolean two = first[1][i] != null;
                sums[1] += one && two ? 1 : 0;
                sums[2] += one && !two ? 1 : 0;
                sums[3] += two && !one ? 1 : 0;
                sums[5] += one && two ? first[0][i].severity - first[1][i].severity : 0;
            }
            sums[0] += told[0] && told[1] ? 1 : 0;
        }
        sums[4] = sums[1] + sums[3] == 0 ? 0 : 10000 * sums[3] / (sums[1] + sums[3]);
        return sums[what];
    }

    int draw(int crew) {
        List<Fault> from = faults.stream().filter(f -> f.now() == 2 && lastCrew(f) == crew).toList();
        if (from.isEmpty()) {
            return -4;
        }
        z = z * 1103515245 + 12345;
        return from.get((z >>> 8) % from.size()).number;
    }

    int weight(int street, int day) {
        return faults.stream().filter(f -> homes.get(f.home).street == street && f.left(day)).mapToInt(f -> f.severity).sum();
    }

    int worst(int i, int day) {
        List<Integer> all = new ArrayList<>(List.of(0, 1, 2, 3, 4, 5, 6, 7));
        all.sort((a, b) -> weight(b, day) != weight(a, day) ? weight(b, day) - weight(a, day) : a - b);
        return all.get(i);
    }
}
