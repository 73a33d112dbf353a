/** Promises 32 to 37, by hand. */
public final class TextsTest {
    private static final Due DUE = new Due();

    public static void main(String[] args) {
        feeding();
        making();
        warrantyFaults();
        freeingFaults();
        forces();
        judging();
        aheadOfTheKey();
        onTheKeyDay();
        names();
        signs();
        payers();
        freed();
        freeingNames();
        taking();
        DUE.end("TextsTest");
    }

    private static void feeding() {
        SnagBook x = new SnagBook();
        DUE.is("feed(0, 0)", x.feed(0, 0), -1);
        DUE.is("feed(5, 0)", x.feed(5, 0), -1);
        DUE.is("feed(-1, 0)", x.feed(-1, 0), -1);
        DUE.is("feed(1, ..)", x.feed(1, '>' | -256), 1);
        DUE.is("feed(2, ..)", x.feed(2, 'b' | ';' << 8 | 77 << 16), 3);
        DUE.is("the bytes of the tape", x.text(0, 0), 0);
        for (int i = 1; i < 40; i++) {
            DUE.is("feed(4, -1)", x.feed(4, -1), 4 * i);
        }
        DUE.is("feed(3, -1)", x.feed(3, -1), 159);
        DUE.is("feed(2, -1)", x.feed(2, -1), -2);
        DUE.is("feed(5, -1)", x.feed(5, -1), -1);
        DUE.is("count(6)", x.count(6), 159);
        DUE.is("feed(1, -1)", x.feed(1, -1), 160);
        DUE.is("feed(1, -1)", x.feed(1, -1), -2);
        DUE.is("text(0, 0)", x.text(0, 0), -100);
        DUE.is("count(6)", x.count(6), 0);
    }

    private static void making() {
        SnagBook x = new SnagBook();
        Due.feed(x, ">b;");
        DUE.is("text(2, 0)", x.text(2, 0), -1);
        DUE.is("text(-1, 0)", x.text(-1, 0), -1);
        DUE.is("text(0, -1)", x.text(0, -1), -1);
        DUE.is("text(0, 10000)", x.text(0, 10000), -1);
        DUE.is("the tape stays", x.count(6), 3);
        DUE.is("text(0, 9999)", x.text(0, 9999), 0);
        for (int i = 1; i < 10; i++) {
            DUE.is("warranty " + i, Due.text(x, 0, 0, ">b;"), i);
        }
        DUE.is("freeing 0", Due.text(x, 1, 0, "q"), 0);
        DUE.is("warranty 10", Due.text(x, 0, 0, ">b;"), -2);
        DUE.is("the tape stays", x.count(6), 3);
        DUE.is("text(0, -1)", x.text(0, -1), -1);
        DUE.is("a full shelf goes ahead of a wrong text", Due.text(x, 0, 0, "?"), -2);
        DUE.is("as a freeing it is wrong", x.text(1, 0), -100);
        DUE.is("the tape is empty", x.count(6), 0);
        for (int i = 1; i < 10; i++) {
            DUE.is("freeing " + i, Due.text(x, 1, 0, "q"), i);
        }
        DUE.is("freeing 10", Due.text(x, 1, 0, "q"), -2);
        DUE.is("count(4)", x.count(4), 10);
        DUE.is("count(5)", x.count(5), 10);
        StringBuilder whole = new StringBuilder();
        for (int i = 0; i < 32; i++) {
            whole.append(">b99;");
        }
        DUE.is("160 bytes", Due.text(new SnagBook(), 0, 0, whole.toString()), 0);
    }

    private static void wrong(int what, String text, int fault) {
        DUE.is(text, Due.text(new SnagBook(), what, 0, text), -100 - fault);
    }

    private static void right(int what, String... texts) {
        for (String text : texts) {
            DUE.is(text, Due.text(new SnagBook(), what, 0, text), 0);
        }
    }

    private static void warrantyFaults() {
        right(0, ">b;", ">w0;", ">h9999;", "y<1>c;", "k=0001&t!22&s+333&n<4444&o=1&d=0&f=2&g!0>v;>b;", "y<1>b1;k=1>w;");
        wrong(0, "", 0);
        wrong(0, "?", 0);
        wrong(0, "b", 0);
        wrong(0, "y", 1);
        wrong(0, "y>", 1);
        wrong(0, "y<", 2);
        wrong(0, "y<b", 2);
        wrong(0, "y<1", 3);
        wrong(0, "y<1;", 3);
        wrong(0, "y<12345", 6);
        wrong(0, "y<1&", 4);
        wrong(0, "y<1&>", 4);
        wrong(0, "y<1>", 4);
        wrong(0, "y<1>b", 5);
        wrong(0, "y<1>bb", 5);
        wrong(0, "y<1>b1", 6);
        wrong(0, "y<1>b12345;", 9);
        wrong(0, ">b;;", 3);
        wrong(0, ">b;y", 4);
        wrong(0, ">b; ", 3);
        wrong(0, ">b;\u00ff", 3);
        wrong(0, ">b;\u0000", 3);
        wrong(0, "Y<1>b;", 0);
        wrong(0, "y<1>B;", 4);
        wrong(0, "y<=1>b;", 2);
        wrong(0, "y<-1>b;", 2);
    }

    private static void freeingFaults() {
        right(1, "0", "99999", "q", "(q)", "q:1", "q:1;y:2;3", "1+2-3*4/5", "((((((1)+1)+1)+1)+1)+1)", "(1)(".substring(0, 3));
        wrong(1, "", 0);
        wrong(1, "?", 0);
        wrong(1, "-1", 0);
        wrong(1, "1+", 2);
        wrong(1, "1++1", 2);
        wrong(1, "1;", 2);
        wrong(1, ";1", 0);
        wrong(1, "1:", 2);
        wrong(1, "1:2:3", 3);
        wrong(1, "1:2;3:4:5", 7);
        wrong(1, "(1:2)", 2);
        wrong(1, "(1;2)", 2);
        wrong(1, "(1", 2);
        wrong(1, "1)", 1);
        wrong(1, "()", 1);
        wrong(1, "(1)1", 3);
        wrong(1, "(1)q", 3);
        wrong(1, "(1)(", 3);
        wrong(1, "q1", 1);
        wrong(1, "1q", 1);
        wrong(1, "qq", 1);
        wrong(1, "1(", 1);
        wrong(1, "1+(((((((", 8);
        wrong(1, "(((1)+((((((", 10);
        wrong(1, "1+123456", 7);
        wrong(1, "q 1", 1);
        wrong(1, "q\u0000", 1);
        wrong(1, "Q", 0);
        wrong(1, "k", 0);
    }

    private static void forces() {
        SnagBook x = new SnagBook();
        x.home(0, 0, 0);
        x.home(1, 0, 0);
        x.home(2, 0, 0);
        x.days(10);
        x.key(0, 0);
        Due.text(x, 0, 10, ">b;");
        Due.text(x, 0, 11, ">w;");
        DUE.is("for its KEY DAY", x.inForce(0, 0, 10), 0);
        DUE.is("not made yet", x.inForce(0, 0, 9), -4);
        DUE.is("of another sort", x.inForce(1, 0, 10), -4);
        DUE.is("no key", x.inForce(0, 1, 10), -1);
        DUE.is("inForce(2, ..)", x.inForce(2, 0, 10), -1);
        DUE.is("inForce(-1, ..)", x.inForce(-1, 0, 10), -1);
        DUE.is("inForce home 3", x.inForce(0, 3, 10), -1);
        DUE.is("inForce day -1", x.inForce(0, 0, -1), -1);
        DUE.is("inForce day 10000", x.inForce(0, 0, 10000), -1);
        x.days(5);
        x.key(1, 0);
        Due.text(x, 0, 0, ">h;");
        Due.text(x, 1, 12, "1");
        DUE.is("the one made last", x.inForce(0, 0, 15), 2);
        DUE.is("as known ahead", x.inForce(0, 0, 14), 0);
        DUE.is("a later KEY DAY", x.inForce(0, 1, 14), 1);
        DUE.is("a day to come", x.inForce(0, 1, 9999), 2);
        DUE.is("FREEING", x.inForce(1, 1, 15), 0);
        DUE.is("FREEING for later keys", x.inForce(1, 0, 15), -4);
    }

    private static SnagBook keyed() {
        SnagBook x = new SnagBook();
        x.home(0, 0, 0);
        x.home(1, 0, 0);
        x.kind(3, 10, 0);
        x.kind(4, 10, 2);
        return x;
    }

    private static void judged(SnagBook x, int fault, int who, int owner, int rest, int line) {
        DUE.is("WHO of " + fault, x.judge(fault, 0), who);
        DUE.is("owner pays of " + fault, x.judge(fault, 1), owner);
        DUE.is("WHO pays of " + fault, x.judge(fault, 2), rest);
        DUE.is("LINE of " + fault, x.judge(fault, 3), line);
    }

    private static void judging() {
        SnagBook x = keyed();
        x.fault(0, 0, 2, 0);
        judged(x, 0, 0, 0, 20, -1);
        x.days(1);
        x.key(0, 0);
        x.fault(0, 0, 3, 0);
        DUE.is("judge(2, 0)", x.judge(2, 0), -1);
        DUE.is("judge(-1, 0)", x.judge(-1, 0), -1);
        DUE.is("judge(0, 4)", x.judge(0, 4), -1);
        DUE.is("judge(0, -1)", x.judge(0, -1), -1);
        judged(x, 0, 0, 0, 20, -1);
        judged(x, 1, 2, 30, 0, -1);
        Due.text(x, 0, 1, "s=1>b;>w7;");
        judged(x, 0, 0, 0, 20, -1);
        judged(x, 1, 1, 7, 23, 1);
        x.days(1);
        x.fault(3, 0, 1, 0);
        judged(x, 2, 0, 0, 10, 0);
        Due.text(x, 0, 1, "s=9>b;");
        judged(x, 1, 2, 30, 0, -1);
        Due.text(x, 0, 0, ">w30;");
        judged(x, 1, 1, 30, 0, 0);
        Due.text(x, 0, 0, ">b9999;");
        judged(x, 1, 0, 30, 0, 0);
        x.voids(1);
        judged(x, 1, 0, 30, 0, 0);
    }

    private static void aheadOfTheKey() {
        SnagBook x = keyed();
        Due.text(x, 0, 0, ">w7;");
        x.fault(0, 0, 2, 0);
        x.fault(12, 1, 9, 10);
        judged(x, 0, 0, 0, 20, -1);
        DUE.is("judge(0, 4)", x.judge(0, 4), -1);
        DUE.is("judge(0, -1)", x.judge(0, -1), -1);
        DUE.is("judge(2, 0)", x.judge(2, 0), -1);
        x.days(360);
        judged(x, 1, 0, 0, 90, -1);
        x.fault(1, 0, 4, 10);
        judged(x, 2, 0, 0, 40, -1);
        x.key(0, 0);
        x.fault(1, 0, 5, 10);
        judged(x, 2, 1, 7, 33, 0);
        judged(x, 3, 1, 7, 43, 0);
        judged(x, 0, 0, 0, 20, -1);
        judged(x, 1, 0, 0, 90, -1);
        x.days(1);
        x.fault(1, 0, 1, 10);
        judged(x, 2, 1, 7, 33, 0);
        judged(x, 4, 1, 7, 3, 0);
        judged(x, 0, 0, 0, 20, -1);
    }

    /** One told on the key day goes by the warranty, whichever of the two calls came first that day. */
    private static void onTheKeyDay() {
        SnagBook x = keyed();
        x.fault(0, 0, 1, 10);
        x.days(1);
        x.fault(0, 0, 1, 10);
        x.key(0, 99999);
        x.fault(0, 0, 1, 10);
        judged(x, 1, 2, 10, 0, -1);
        judged(x, 2, 2, 10, 0, -1);
        DUE.is("told on the key day, ahead of the call", x.take(1), -3);
        DUE.is("told on the key day, behind the call", x.take(2), -3);
        DUE.is("told a day ahead", x.take(0), 10);
        Due.text(x, 0, 2, ">b;");
        DUE.is("the warranty is for later key days", x.take(1), -3);
        Due.text(x, 0, 1, ">b4;");
        DUE.is("the builder pays by the warranty", x.take(1), 6);
        DUE.is("the builder pays by the warranty", x.take(2), 6);
    }

    private static void payers() {
        SnagBook x = keyed();
        x.key(0, 0);
        x.days(1);
        x.fault(0, 0, 3, 0);
        Due.text(x, 0, 0, ">h5;");
        judged(x, 0, 2, 30, 0, 0);
        Due.text(x, 0, 0, ">v5;");
        judged(x, 0, 3, 0, 0, 0);
        Due.text(x, 0, 0, "y=9>b;>c5;");
        judged(x, 0, 0, 5, 25, 1);
        x.crew(0, 4, 8);
        judged(x, 0, 0, 5, 25, 1);
        x.crew(0, 3, 8);
        judged(x, 0, 18, 5, 25, 1);
        x.crew(0, 3, 0);
        judged(x, 0, 10, 5, 25, 1);
        x.said(0, 6);
        x.days(1);
        x.crew(0, 4, 1);
        x.fault(0, 1, 3, 0);
        judged(x, 1, 16, 5, 25, 1);
        x.rule(0, 0);
        judged(x, 1, 11, 5, 25, 1);
    }

    private static int line(SnagBook x, int fault, String test) {
        Due.text(x, 0, 0, test + ">b;>w;");
        return x.judge(fault, 3);
    }

    private static void names() {
        SnagBook x = keyed();
        x.key(0, 0);
        x.sell(0);
        x.days(360);
        x.sell(0);
        x.fault(9, 1, 6, 0);
        DUE.is("y=1", line(x, 0, "y=1"), 0);
        DUE.is("k=1", line(x, 0, "k=1"), 0);
        DUE.is("t=4", line(x, 0, "t=4"), 0);
        DUE.is("s=6", line(x, 0, "s=6"), 0);
        DUE.is("n=1", line(x, 0, "n=1"), 0);
        x.sell(0);
        DUE.is("o=3, all of the day", line(x, 0, "o=3"), 0);
        DUE.is("d=0", line(x, 0, "d=0"), 0);
        DUE.is("f=2", line(x, 0, "f=2"), 0);
        DUE.is("g=0", line(x, 0, "g=0"), 0);
        x = keyed();
        x.key(0, 0);
        x.days(359);
        x.fault(4, 0, 6, 0);
        x.said(0, 2);
        x.days(1);
        x.sell(0);
        x.fault(4, 1, 6, 0);
        x.fault(4, 0, 6, 0);
        int[] widths = {0, 1, 9};
        for (int width : widths) {
            x.read(1, width);
            x.days(1);
        }
        x.sell(0);
        DUE.is("y=0", line(x, 0, "y=0"), 0);
        DUE.is("o=0", line(x, 0, "o=0"), 0);
        DUE.is("o=1", line(x, 1, "o=1"), 0);
        DUE.is("n=0", line(x, 2, "n=0"), 0);
        DUE.is("d=1", line(x, 1, "d=1"), 0);
        DUE.is("f=1", line(x, 1, "f=1"), 0);
        DUE.is("g=2", line(x, 1, "g=2"), 0);
        DUE.is("g=0 of no CRACK", line(x, 0, "g=0"), 0);
        x.key(1, 0);
        x.days(359);
        x.fault(12, 0, 1, 0);
        x.days(1);
        x.fault(12, 0, 1, 0);
        DUE.is("y=0 of a later key", line(x, 3, "y=0"), 0);
        DUE.is("y=1 of a later key", line(x, 4, "y=1"), 0);
        DUE.is("y=0 & o=1", line(x, 0, "y=0&o=1"), 1);
    }

    private static void signs() {
        String[] holds = {"s<7", "s=6", "s!5", "s!7", "s+6", "s+5", "s<9999", "s=06"};
        String[] fails = {"s<6", "s<0", "s=5", "s!6", "s+7", "s=6&s=5", "s=5&s=6", "s=6&s=6&s<6"};
        for (int i = 0; i < holds.length; i++) {
            SnagBook x = keyed();
            x.key(0, 0);
            x.days(1);
            x.fault(0, 0, 6, 0);
            DUE.is(holds[i], line(x, 0, holds[i]), 0);
            DUE.is(fails[i], line(x, 0, fails[i]), 1);
        }
    }

    private static void freed() {
        SnagBook x = new SnagBook();
        x.home(0, 0, 0);
        DUE.is("free(1)", x.free(1), -1);
        DUE.is("free(-1)", x.free(-1), -1);
        DUE.is("free without a key", x.free(0), -3);
        x.key(0, 1000);
        DUE.is("no FREEING", x.free(0), 0);
        Due.text(x, 1, 1, "7");
        DUE.is("a FREEING for later keys", x.free(0), 0);
        String[] texts = {"1+2*3", "1-2", "7/2", "7/0", "0-7/2", "0:5;y:6;8", "0:5;0:6", "1:2;3", "(1+2)*(3-1)", "1-(2-(3-4))"};
        int[] want = {9, 0, 3, 0, 0, 8, 0, 2, 6, 0};
        for (int i = 0; i < texts.length; i++) {
            x = new SnagBook();
            x.home(0, 0, 0);
            x.key(0, 1000);
            Due.text(x, 1, 0, texts[i]);
            DUE.is(texts[i], x.free(0), want[i]);
            DUE.is(texts[i] + ", KEPT BACK", x.ofHome(0, 10), 1000 - want[i]);
            DUE.is(texts[i] + ", FREED", x.ofHome(0, 11), want[i]);
            DUE.is(texts[i] + ", count(9)", x.count(9), want[i]);
        }
        x = new SnagBook();
        x.home(0, 0, 0);
        x.key(0, 1000);
        Due.text(x, 1, 0, "600");
        DUE.is("600", x.free(0), 600);
        DUE.is("what is left", x.free(0), 400);
        DUE.is("nothing is left", x.free(0), 0);
        Due.text(x, 1, 0, "r+99999*99999");
        DUE.is("ints wrap", x.free(0), 0);
    }

    private static void freeingNames() {
        SnagBook x = new SnagBook();
        x.home(0, 0, 0);
        x.home(1, 0, 0);
        x.kind(0, 1, 0);
        x.days(2);
        x.key(0, 50000);
        for (int i = 0; i < 6; i++) {
            x.fault(i, 0, 1, 0);
        }
        x.fault(12, 0, 1, 0);
        x.voids(0);
        x.said(1, 0);
        x.look(1, 1);
        for (int i = 2; i < 4; i++) {
            x.said(i, 0);
            x.look(i, 0);
        }
        x.promise(4, 2);
        x.days(7);
        Due.text(x, 1, 0, "q*10+y*10+x*10+b");
        DUE.is("q 4, y 7, x 2, b 1", x.free(0), ((4 * 10 + 7) * 10 + 2) * 10 + 1);
        Due.text(x, 1, 0, "r/2");
        DUE.is("r is what is KEPT BACK now", x.free(0), (50000 - 4721) / 2);
    }

    private static void taking() {
        SnagBook x = keyed();
        x.fault(12, 0, 3, 0);
        DUE.is("take(1)", x.take(1), -1);
        DUE.is("take(-1)", x.take(-1), -1);
        DUE.is("take without a key", x.take(0), -3);
        x.days(1);
        x.key(0, 30);
        x.key(1, 29);
        DUE.is("too little", x.take(0), -3);
        DUE.is("refused", x.state(0, 1), 0);
        x.days(1);
        x.fault(0, 0, 3, 0);
        DUE.is("the owner pays", x.take(1), -3);
        Due.text(x, 0, 0, ">v;");
        DUE.is("nobody pays", x.take(1), -3);
        Due.text(x, 0, 0, ">w;");
        DUE.is("the warranty pays", x.take(1), -3);
        Due.text(x, 0, 0, ">c;");
        x.crew(0, 3, 1);
        DUE.is("a crew pays", x.take(1), -3);
        x.crew(0, 3, -1);
        x.promise(1, 3);
        DUE.is("the builder in a crew's place", x.take(1), 30);
        DUE.is("TRULY CLOSED", x.state(1, 2), 3);
        DUE.is("KEPT BACK", x.ofHome(0, 10), 0);
        DUE.is("TAKEN", x.ofHome(0, 12), 30);
        DUE.is("count(10)", x.count(10), 30);
        DUE.is("again", x.take(1), -3);
        Due.text(x, 0, 0, ">b30;");
        x.fault(0, 0, 3, 0);
        DUE.is("a part of 0", x.take(2), 0);
        DUE.is("TRULY CLOSED", x.state(2, 2), 3);
        Due.text(x, 0, 0, ">b25;");
        x.fault(12, 0, 3, 0);
        x.said(3, 0);
        DUE.is("a SAID one", x.take(3), -3);
        x.look(3, 0);
        DUE.is("its part alone", x.take(3), 5);
        DUE.is("KEPT BACK", x.ofHome(1, 10), 24);
    }
}
