import java.util.Arrays;

/** All that can be asked of a book, as one row of answers: so two books can be held against each other. */
final class Probe {
    private int[] all = new int[4096];
    private int size;

    private void add(int answer) {
        if (size == all.length) {
            all = Arrays.copyOf(all, 2 * size);
        }
        all[size++] = answer;
    }

    private int[] row() {
        return Arrays.copyOf(all, size);
    }

    /** By calls alone that change nothing. */
    static int[] asked(SnagBook x) {
        Probe p = new Probe();
        p.ask(x);
        return p.row();
    }

    /** Also what only shows by calls that change the book: it is used up by that. */
    static int[] usedUp(SnagBook x) {
        Probe p = new Probe();
        p.ask(x);
        p.use(x);
        p.ask(x);
        return p.row();
    }

    private void ask(SnagBook x) {
        for (int what = 0; what < 12; what++) {
            add(x.count(what));
        }
        for (int home = 0; home < x.count(0); home++) {
            for (int what = 0; what < 13; what++) {
                add(x.ofHome(home, what));
            }
            add(x.inForce(0, home, x.count(3)));
            add(x.inForce(1, home, x.count(3)));
        }
        for (int fault = 0; fault < x.count(2); fault++) {
            askFault(x, fault);
        }
        for (int i = 0; i < 10; i++) {
            for (int what = 0; what < 4; what++) {
                add(x.ofCrew(i, what));
            }
            add(x.planned(i));
            add(x.weight(i, 9999));
            add(x.worst(i, 9999));
        }
    }

    private void askFault(SnagBook x, int fault) {
        for (int what = 0; what < 14; what++) {
            add(x.ofFault(fault, what));
        }
        for (int what = 0; what < 4; what++) {
            add(x.judge(fault, what));
        }
        add(x.state(fault, x.count(3)));
        add(x.state(fault, 9999));
        add(x.damage(fault));
        add(x.source(fault, 9999));
        add(x.gauge(fault, 9999));
        for (int i = 0; i < 11; i++) {
            add(x.pace(fault, i));
        }
    }

    private void use(SnagBook x) {
        for (int i = 0; i < 10; i++) {
            add(x.draw(i));
            add(x.men(i, 9));
        }
        for (int home = 0; home < x.count(0); home++) {
            add(x.in(home, 127));
            for (int trade = 0; trade < 10; trade++) {
                add(x.crew(home, trade, -1));
            }
            add(x.free(home));
        }
        add(x.rule(0, 60));
        add(x.rule(1, 500));
        add(x.plan(14));
        for (int i = 0; i < 8; i++) {
            add(x.planned(i));
        }
        add(x.text(0, 0));
        for (int fault = 0; fault < x.count(2); fault++) {
            add(x.read(fault, 5));
            add(x.take(fault));
        }
        add(x.days(1));
    }
}
