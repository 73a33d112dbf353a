import java.util.Random;

/** Promises 20 to 23: by hand, and against drawing every set of homes there is. */
public final class CausesTest {
    private static final Due DUE = new Due();

    public static void main(String[] args) {
        wrongInputs();
        joinedAndChance();
        causes();
        lowGround();
        fortyHomes();
        againstAllDraws();
        DUE.end("CausesTest");
    }

    private static void wrongInputs() {
        SnagBook x = new SnagBook();
        x.kind(0, 1, 0);
        int[] noGroups = {-1, 8, 9, 31, 39, 40, -10, Integer.MAX_VALUE, Integer.MIN_VALUE};
        for (int group : noGroups) {
            DUE.is("joined group " + group, x.joined(0, group, 0, 0), -1);
            DUE.is("chance group " + group, x.chance(0, group, 0), -1);
        }
        int[] groups = {0, 7, 10, 19, 20, 29, 30};
        for (int group : groups) {
            DUE.is("joined group " + group, x.joined(0, group, 0, 0), 0);
            DUE.is("chance group " + group, x.chance(0, group, 0), 10000);
        }
        int[] noKinds = {-1, 1};
        for (int kind : noKinds) {
            DUE.is("joined kind", x.joined(kind, 0, 0, 0), -1);
            DUE.is("chance kind", x.chance(kind, 0, 0), -1);
            DUE.is("cause kind", x.cause(kind, 0, 1), -1);
            DUE.is("rivals kind", x.rivals(kind, 0, 1), -1);
        }
        int[] noDays = {-1, 10000};
        for (int day : noDays) {
            DUE.is("joined day", x.joined(0, 0, day, 0), -1);
            DUE.is("chance day", x.chance(0, 0, day), -1);
            DUE.is("cause day", x.cause(0, day, 1), -1);
            DUE.is("rivals day", x.rivals(0, day, 1), -1);
        }
        int[] noChances = {-1, 0, 10000};
        for (int p : noChances) {
            DUE.is("cause p", x.cause(0, 0, p), -1);
            DUE.is("rivals p", x.rivals(0, 0, p), -1);
        }
        DUE.is("joined what -1", x.joined(0, 0, 0, -1), -1);
        DUE.is("joined what 3", x.joined(0, 0, 0, 3), -1);
        DUE.is("no homes", x.cause(0, 0, 9999), -4);
        DUE.is("no homes", x.rivals(0, 9999, 9999), -4);
    }

    private static void joinedAndChance() {
        SnagBook x = new SnagBook();
        x.home(0, 99, 1);
        x.home(1, 100, 2);
        x.home(100, 101, 1);
        x.home(101, 50, 2);
        x.kind(3, 1, 0);
        x.kind(4, 1, 0);
        x.crew(0, 3, 7);
        x.crew(1, 3, 7);
        x.crew(2, 4, 7);
        x.days(1);
        x.fault(0, 0, 1, 0);
        x.fault(1, 0, 1, 0);
        x.days(1);
        x.fault(12, 0, 1, 0);
        x.fault(24, 1, 1, 0);
        DUE.is("none yet", x.joined(0, 0, 0, 0), 0);
        DUE.is("a home counts once", x.joined(0, 0, 1, 0), 1);
        DUE.is("two", x.joined(0, 0, 2, 0), 2);
        DUE.is("with it in a street", x.joined(0, 1, 2, 1), 0);
        DUE.is("all of a street", x.joined(0, 1, 2, 2), 2);
        DUE.is("with it of a crew", x.joined(0, 17, 2, 1), 2);
        DUE.is("the crew as this kind's trade", x.joined(1, 17, 2, 2), 1);
        DUE.is("with it of a batch", x.joined(0, 21, 2, 1), 1);
        DUE.is("LOW is below the mark", x.joined(0, 30, 2, 2), 2);
        DUE.is("with it on LOW ground", x.joined(0, 30, 2, 1), 1);
        x.rule(1, 101);
        DUE.is("another mark", x.joined(0, 30, 2, 2), 3);
        DUE.is("CHANCE of both of two of four", x.chance(0, 17, 2), 1667);
        DUE.is("CHANCE of none or more", x.chance(0, 1, 2), 10000);
        x.days(1);
        x.voids(2);
        DUE.is("VOID then", x.joined(0, 0, 3, 0), 1);
        DUE.is("not VOID ahead", x.joined(0, 0, 2, 0), 2);
        DUE.is("a day to come", x.joined(0, 0, 9999, 0), 1);
        x.said(0, 1);
        x.look(0, 1);
        DUE.is("a closed one still counts", x.joined(0, 0, 3, 0), 1);
    }

    private static void causes() {
        SnagBook x = new SnagBook();
        for (int i = 0; i < 10; i++) {
            x.home(i < 5 ? 300 + i : 400 + i, i < 5 ? 10 : 500, i % 2);
        }
        x.kind(0, 1, 0);
        for (int i = 0; i < 4; i++) {
            x.fault(12 * i, 0, 1, 0);
        }
        // Street 3 and LOW ground are the same homes: C(5,4) / C(10,4) of 10000, up.
        DUE.is("chance", x.chance(0, 3, 0), 239);
        DUE.is("the first of like ones", x.cause(0, 0, 240), 3);
        DUE.is("below p", x.cause(0, 0, 239), -4);
        DUE.is("rivals below p", x.rivals(0, 0, 239), -4);
        DUE.is("the same homes are no rival", x.rivals(0, 0, 240), 0);
        DUE.is("batches are", x.rivals(0, 0, 9999), 2);
        DUE.is("just p is not below", x.rivals(0, 0, x.chance(0, 20, 0)), 0);
        DUE.is("just below p", x.rivals(0, 0, x.chance(0, 20, 0) + 1), 2);
        for (int i = 0; i < 4; i++) {
            x.crew(i, 0, 9);
        }
        DUE.is("the least one", x.cause(0, 0, 9999), 19);
        DUE.is("rivals with like homes among themselves", x.rivals(0, 0, 240), 2);
        x.rule(1, 0);
        DUE.is("rivals without LOW ground", x.rivals(0, 0, 240), 1);
    }

    private static void lowGround() {
        SnagBook x = new SnagBook();
        for (int i = 0; i < 4; i++) {
            x.home(i, i < 2 ? 99 : 100, i % 2);
        }
        x.kind(0, 1, 0);
        x.fault(0, 0, 1, 0);
        x.fault(12, 0, 1, 0);
        DUE.is("LOW ground", x.cause(0, 0, 9999), 30);
        DUE.is("its CHANCE", x.chance(0, 30, 0), 1667);
    }

    private static void fortyHomes() {
        SnagBook x = new SnagBook();
        x.kind(0, 1, 0);
        for (int i = 0; i < 40; i++) {
            x.home(i < 20 ? i : 100 + i, 999, i / 4);
        }
        for (int i = 0; i < 20; i++) {
            x.fault(12 * i, 0, 1, 0);
        }
        DUE.is("1 of C(40,20), up", x.chance(0, 0, 0), 1);
        DUE.is("of none of it", x.chance(0, 1, 0), 10000);
        DUE.is("4 of 4: 4845 of 91390", x.chance(0, 20, 0), 531);
        DUE.is("cause", x.cause(0, 0, 2), 0);
        DUE.is("nothing is below 1", x.cause(0, 0, 1), -4);
        DUE.is("nothing is below 1", x.rivals(0, 0, 1), -4);
    }

    private static void againstAllDraws() {
        Random random = new Random(3);
        for (int run = 0; run < 60; run++) {
            SnagBook x = new SnagBook();
            int n = 1 + random.nextInt(10);
            int[] members = new int[31];
            x.kind(5, 1, 0);
            int with = 0;
            for (int i = 0; i < n; i++) {
                int street = random.nextInt(3);
                int ground = random.nextInt(200);
                int batch = random.nextInt(3);
                int crew = random.nextInt(3) - 1;
                x.home(100 * street + i, ground, batch);
                x.crew(i, 5, crew);
                members[street] |= 1 << i;
                members[20 + batch] |= 1 << i;
                members[30] |= ground < 100 ? 1 << i : 0;
                if (crew >= 0) {
                    members[10 + crew] |= 1 << i;
                }
                if (random.nextBoolean()) {
                    x.fault(12 * i, 0, 1, 0);
                    with |= 1 << i;
                }
            }
            int[] chances = new int[31];
            for (int group = 0; group < 31; group++) {
                if (group != 8 && group != 9) {
                    chances[group] = members[group] == 0 ? 10000 : chanceByDraws(n, with, members[group]);
                    DUE.is("run " + run + " chance " + group, x.chance(0, group, 0), chances[group]);
                    DUE.is("joined", x.joined(0, group, 0, 1), Integer.bitCount(with & members[group]));
                }
            }
            int p = 1 + random.nextInt(9999);
            int cause = -4;
            for (int group = 30; group >= 0; group--) {
                boolean least = group != 8 && group != 9 && chances[group] < p;
                if (least && (cause == -4 || chances[group] <= chances[cause])) {
                    cause = group;
                }
            }
            int rivals = cause == -4 ? -4 : 0;
            for (int group = 0; group < 31 && cause != -4; group++) {
                if (group != 8 && group != 9 && chances[group] < p && members[group] != members[cause]) {
                    rivals++;
                }
            }
            DUE.is("run " + run + " cause", x.cause(0, 0, p), cause);
            DUE.is("run " + run + " rivals", x.rivals(0, 0, p), rivals);
        }
    }

    private static int chanceByDraws(int homes, int with, int group) {
        int drawn = Integer.bitCount(group);
        int hit = Integer.bitCount(group & with);
        int all = 0;
        int good = 0;
        for (int set = 0; set < 1 << homes; set++) {
            if (Integer.bitCount(set) == drawn) {
                all++;
                good += Integer.bitCount(set & with) >= hit ? 1 : 0;
            }
        }
        return (int) Math.ceil(10000.0 * good / all - 1e-9);
    }
}
