/** Parts 6 and 8 of the document, promises 32 to 37: each sentence that names an edge has a test of its own. */
public final class EdgesOfTextsTest {
    private static final Due DUE = new Due();
    private static final int NOT = -4;

    public static void main(String[] args) {
        bytesInOrder();
        wholeTape();
        emptiedTape();
        linesOfAWarranty();
        numbersOfAWarranty();
        endsTooEarly();
        eachByte();
        madeOnADay();
        forKeyDaysFrom();
        madeLast();
        years();
        soldByThen();
        otherNames();
        gaugeOfTheDayOfJudgement();
        signs();
        allTs();
        firstLine();
        excess();
        whoPays();
        noLine();
        aheadOfTheKey();
        bandsOfAFreeing();
        numbersOfAFreeing();
        sixOpen();
        fromTheLeft();
        towardZero();
        byZero();
        wraps();
        tests();
        namesOfAFreeing();
        freed();
        taken();
        DUE.end("EdgesOfTextsTest");
    }

    private static int made(int what, String text) {
        return Due.text(new SnagBook(), what, 0, text);
    }

    private static void right(int what, String... texts) {
        for (String text : texts) {
            DUE.is("33: " + text, made(what, text), 0);
        }
    }

    private static void wrong(int what, String text, int place) {
        DUE.is("33: " + text, made(what, text), -100 - place);
    }

    private static void bytesInOrder() {
        SnagBook x = new SnagBook();
        DUE.is("32: one of four", x.feed(1, ';' << 24 | ';' << 16 | ';' << 8 | '>'), 1);
        DUE.is("32: two of four", x.feed(2, ';' << 24 | ';' << 16 | '1' << 8 | 'b'), 3);
        DUE.is("32: three of four", x.feed(3, '?' << 24 | '>' << 16 | ';' << 8 | '2'), 6);
        DUE.is("32: four, the sign last", x.feed(4, 0xff000000 | '3' << 16 | '2' << 8 | 'w'), 10);
        DUE.is("33: in their order", x.text(0, 0), -109);
    }

    private static void wholeTape() {
        String text = "s=9>v;".repeat(20) + "s=09>v;".repeat(5) + ">w77;";
        SnagBook x = new SnagBook();
        DUE.is("32: 160 bytes", Due.feed(x, text), 160);
        DUE.is("32: one more", x.feed(1, ';'), -2);
        DUE.is("33: all of THE TAPE", x.text(0, 0), 0);
        x.home(0, 0, 0);
        x.kind(0, 100, 0);
        x.key(0, 0);
        x.fault(0, 0, 1, 0);
        DUE.is("35: the last LINE", x.judge(0, 3), 25);
        DUE.is("35: its last byte but one", x.judge(0, 1), 77);
        wrong(0, text.substring(0, 159) + "?", 159);
        wrong(0, text.substring(0, 158) + "77", 160);
        DUE.is("33: 160 bytes of a FREEING", made(1, "1+".repeat(79) + "12"), 0);
        wrong(1, "1+".repeat(80), 160);
        wrong(1, "1+".repeat(79) + "1)", 159);
        DUE.is("36: 160 bytes worked out", gives("1+".repeat(79) + "12"), 91);
    }

    private static void emptiedTape() {
        SnagBook x = new SnagBook();
        DUE.is("33: an empty TAPE", x.text(0, 0), -100);
        DUE.is("33: an empty TAPE", x.text(1, 0), -100);
        Due.feed(x, ">b;");
        DUE.is("33: made", x.text(0, 0), 0);
        DUE.is("45: empty then", x.count(6), 0);
        Due.feed(x, ">b");
        DUE.is("33: with a FAULT", x.text(0, 0), -102);
        DUE.is("45: empty then, too", x.count(6), 0);
        DUE.is("45: no WARRANTY more", x.count(4), 1);
        Due.feed(x, ">b;");
        DUE.is("33: no such sort", x.text(2, 0), -1);
        DUE.is("45: it stays", x.count(6), 3);
        DUE.is("33: the next number", x.text(0, 0), 1);
        DUE.is("33: of its sort", Due.text(x, 1, 0, "1"), 0);
    }

    private static void linesOfAWarranty() {
        right(0, ">b;", ">b0;", ">w;>h;>c;>v;", "y<1>b;", "y<1&y<1>b;", ">b;y<1>b;>b;");
        wrong(0, ";", 0);
        wrong(0, ">;", 1);
        wrong(0, ">b;;", 3);
        wrong(0, "&y<1>b;", 0);
        wrong(0, "y<1&&y<1>b;", 4);
        wrong(0, "y<1&>b;", 4);
        wrong(0, "y<1y<1>b;", 3);
        wrong(0, "y<1;", 3);
        wrong(0, "y<1>b&y<1;", 5);
        wrong(0, ">b>w;", 2);
        wrong(0, " >b;", 0);
        wrong(0, "> b;", 1);
        wrong(0, ">b ;", 2);
        wrong(0, ">b; ", 3);
        wrong(0, "y <1>b;", 1);
    }

    private static void numbersOfAWarranty() {
        right(0, "s=0>b;", "s=0000>b;", "s=9999>b9999;", ">b0000;", "s=1&s=12&s=123&s=1234>b1234;>w1234;");
        wrong(0, "s=>b;", 2);
        wrong(0, "s=12345>b;", 6);
        wrong(0, "s=00000>b;", 6);
        wrong(0, "s=1&s=12345>b;", 10);
        wrong(0, ">b12345;", 6);
        wrong(0, "s=1>b00000;", 9);
        wrong(0, ">b-1;", 2);
        wrong(0, "s=-1>b;", 2);
    }

    private static void endsTooEarly() {
        String whole = "s=12&y+3>c45;";
        for (int n = 0; n < whole.length(); n++) {
            wrong(0, whole.substring(0, n), n);
        }
        right(0, whole);
        wrong(0, whole + "s", 14);
        String bands = "(1+q):2;3";
        int[] ends = {0, 1, 2, 3, 4, 6, 8};
        for (int n : ends) {
            wrong(1, bands.substring(0, n), n);
        }
        right(1, "(1+q)", "(1+q):2", bands);
    }

    /** Of all 256 bytes, at the first place of each sort: only those that begin a text get behind it. */
    private static void eachByte() {
        for (int c = 0; c < 256; c++) {
            String one = String.valueOf((char) c);
            DUE.is("33: byte " + c + " of a WARRANTY", made(0, one), "yktsnogdf>".contains(one) ? -101 : -100);
            DUE.is("33: byte " + c + " for WHO", made(0, ">" + one), "bwhcv".contains(one) ? -102 : -101);
            DUE.is("33: byte " + c + " for a SIGN", made(0, "y" + one), "<=!+".contains(one) ? -102 : -101);
            boolean begins = "qyxbr0123456789".contains(one);
            DUE.is("33: byte " + c + " of a FREEING", made(1, one), begins ? 0 : c == '(' ? -101 : -100);
            boolean goesOn = "+-*/:;".contains(one);
            DUE.is("33: byte " + c + " behind P", made(1, "q" + one), goesOn ? -102 : -101);
        }
    }

    private static SnagBook keyed(int keyDay) {
        SnagBook x = new SnagBook();
        x.home(0, 0, 0);
        x.home(1, 0, 0);
        x.kind(3, 10, 0);
        x.kind(4, 10, 2);
        if (keyDay > 0) {
            x.days(keyDay);
        }
        x.key(0, 99999);
        return x;
    }

    private static void madeOnADay() {
        SnagBook x = keyed(0);
        x.days(10);
        Due.text(x, 0, 0, ">b;");
        DUE.is("34: a DAY ahead of the making", x.inForce(0, 0, 9), NOT);
        DUE.is("34: on the DAY of making", x.inForce(0, 0, 10), 0);
        DUE.is("34: on the last DAY", x.inForce(0, 0, 9999), 0);
        DUE.is("34: on DAY 0", x.inForce(0, 0, 0), NOT);
        DUE.is("34: no FREEING", x.inForce(1, 0, 10), NOT);
    }

    private static void forKeyDaysFrom() {
        SnagBook x = keyed(10);
        Due.text(x, 0, 11, ">b;");
        DUE.is("34: for KEY DAYS from a DAY later on", x.inForce(0, 0, 9999), NOT);
        Due.text(x, 0, 10, ">w;");
        DUE.is("34: from its KEY DAY on", x.inForce(0, 0, 9999), 1);
        x.days(1);
        x.key(1, 0);
        DUE.is("34: the other HOME, a DAY later", x.inForce(0, 1, 9999), 1);
        Due.text(x, 0, 11, ">h;");
        DUE.is("34: from just that DAY on", x.inForce(0, 1, 9999), 2);
        DUE.is("34: not for the earlier key", x.inForce(0, 0, 9999), 1);
        Due.text(x, 0, 9999, ">h;");
        DUE.is("34: from the last DAY on", x.inForce(0, 1, 9999), 2);
    }

    private static void madeLast() {
        SnagBook x = keyed(10);
        for (int i = 0; i < 10; i++) {
            DUE.is("33: its number", Due.text(x, 1, 10 - i, "1"), i);
            DUE.is("34: the one made last, on one DAY", x.inForce(1, 0, 10), i);
        }
        DUE.is("34: all of them known a DAY ahead: none", x.inForce(1, 0, 9), NOT);
    }

    /** The LINE that judges FAULT f, where the first LINE asks only this. */
    private static int line(SnagBook x, int f, String test) {
        DUE.is("33: " + test, Due.text(x, 0, 0, test + ">b;>w;") >= 0 ? 1 : 0, 1);
        return x.judge(f, 3);
    }

    private static void years() {
        int[] days = {0, 359, 360, 719, 720};
        int[] want = {0, 0, 1, 1, 2};
        for (int i = 0; i < days.length; i++) {
            SnagBook x = keyed(100);
            for (int left = days[i]; left > 0; left -= 360) {
                x.days(Math.min(left, 360));
            }
            x.fault(0, 0, 1, 0);
            x.days(360);
            DUE.is("35: y, told " + days[i] + " days behind the key", line(x, 0, "y=" + want[i]), 0);
        }
    }

    private static void soldByThen() {
        SnagBook x = keyed(1);
        x.sell(0);
        x.fault(0, 0, 1, 0);
        x.days(1);
        x.sell(0);
        x.sell(0);
        x.fault(0, 0, 1, 0);
        x.days(1);
        x.fault(0, 0, 1, 0);
        x.days(1);
        x.sell(0);
        DUE.is("35: o, sold on the KEY DAY", line(x, 0, "o=1"), 0);
        DUE.is("35: o, each time counted", line(x, 1, "o=3"), 0);
        DUE.is("35: o, sold later does not count", line(x, 2, "o=3"), 0);
    }

    private static void otherNames() {
        SnagBook x = keyed(0);
        x.days(1);
        int plain = x.fault(3, 0, 1, 10);
        int old = x.fault(3, 0, 1, 10);
        x.said(plain, 1);
        x.days(1);
        int damage = x.fault(3, 1, 9, 10);
        int middle = x.fault(4, 1, 1, 10);
        int below = x.fault(7, 1, 1, 10);
        int top = x.fault(8, 1, 1, 10);
        DUE.is("35: k 0", line(x, plain, "k=0"), 0);
        DUE.is("35: k 1", line(x, damage, "k=1"), 0);
        DUE.is("35: t", line(x, plain, "t=3"), 0);
        DUE.is("35: s 1", line(x, plain, "s=1"), 0);
        DUE.is("35: s 9", line(x, damage, "s=9"), 0);
        DUE.is("35: n of a NEW one", line(x, plain, "n=1"), 0);
        DUE.is("35: n of an OLD one", line(x, old, "n=0"), 0);
        DUE.is("35: d", line(x, damage, "d=1"), 0);
        DUE.is("35: d of none", line(x, middle, "d=0"), 0);
        DUE.is("35: f of ROOM 3", line(x, plain, "f=0"), 0);
        x = keyed(0);
        for (int room = 0; room < 12; room++) {
            x.fault(room, 0, 1, 0);
        }
        Due.text(x, 0, 0, "f=0>b;f=1>w;f=2>h;");
        for (int room = 0; room < 12; room++) {
            DUE.is("35: f of ROOM " + room, x.judge(room, 3), room / 4);
        }
        DUE.is("16: so far told", top - below + middle - damage, 2);
    }

    private static void gaugeOfTheDayOfJudgement() {
        SnagBook x = keyed(0);
        x.fault(0, 1, 1, 0);
        x.fault(0, 0, 1, 0);
        int[] widths = {0, 10, 30, 31};
        int[] says = {0, 0, 2, 0};
        for (int i = 0; i < 4; i++) {
            x.read(0, widths[i]);
            DUE.is("35: g with READING " + i + " of TODAY", line(x, 0, "g=" + says[i]), 0);
            x.days(1);
        }
        x.read(0, 31);
        DUE.is("35: g is 1", line(x, 0, "g=0"), 0);
        DUE.is("35: g of what is no CRACK", line(x, 1, "g=0"), 0);
        x = keyed(0);
        x.fault(0, 1, 1, 0);
        for (int i = 0; i < 3; i++) {
            x.read(0, 7);
            x.days(1);
        }
        DUE.is("35: g of a still one", line(x, 0, "g=1"), 0);
    }

    private static void signs() {
        String[] so = {"s<6", "s<9999", "s=5", "s=0005", "s!4", "s!6", "s+5", "s+4", "s+0"};
        String[] not = {"s<5", "s<4", "s<0", "s=4", "s=6", "s!5", "s+6", "s+9999"};
        for (String test : so) {
            SnagBook x = keyed(0);
            x.fault(0, 0, 5, 0);
            DUE.is("35: " + test, line(x, 0, test), 0);
        }
        for (String test : not) {
            SnagBook x = keyed(0);
            x.fault(0, 0, 5, 0);
            DUE.is("35: " + test, line(x, 0, test), 1);
        }
    }

    private static void allTs() {
        String[] texts = {"s=5&t=3", "s=5&t=4", "s=4&t=3", "s=5&t=3&k=0", "s=5&t=3&k=1", "s=4&t=3&k=0"};
        int[] want = {0, 1, 1, 0, 1, 1};
        for (int i = 0; i < texts.length; i++) {
            SnagBook x = keyed(0);
            x.fault(0, 0, 5, 0);
            DUE.is("35: " + texts[i], line(x, 0, texts[i]), want[i]);
        }
    }

    private static void judged(String name, SnagBook x, int who, int owner, int rest, int line) {
        DUE.is("35: " + name + ", WHO", x.judge(0, 0), who);
        DUE.is("35: " + name + ", the owner", x.judge(0, 1), owner);
        DUE.is("35: " + name + ", WHO besides", x.judge(0, 2), rest);
        DUE.is("35: " + name + ", the LINE", x.judge(0, 3), line);
    }

    /** PRICE 50, of TRADE 3, CREW 7. */
    private static SnagBook underText(String text) {
        SnagBook x = keyed(0);
        x.crew(0, 3, 7);
        x.fault(0, 0, 5, 0);
        DUE.is("33: " + text, Due.text(x, 0, 0, text), 0);
        return x;
    }

    private static void firstLine() {
        judged("the first of two that are so", underText("s=5>w3;s=5>b4;"), 1, 3, 47, 0);
        judged("the second", underText("s=4>w3;s=5>b4;"), 0, 4, 46, 1);
        judged("one without a T ends it", underText(">v;>b;"), 3, 0, 0, 0);
        StringBuilder many = new StringBuilder();
        for (int i = 0; i < 25; i++) {
            many.append("s=1>v;");
        }
        judged("LINE 25", underText(many.append(">w;").toString()), 1, 0, 50, 25);
    }

    private static void excess() {
        judged("none", underText(">b;"), 0, 0, 50, 0);
        judged("0", underText(">b0;"), 0, 0, 50, 0);
        judged("1", underText(">b1;"), 0, 1, 49, 0);
        judged("PRICE less 1", underText(">w49;"), 1, 49, 1, 0);
        judged("PRICE", underText(">w50;"), 1, 50, 0, 0);
        judged("PRICE and 1", underText(">w51;"), 1, 50, 0, 0);
        judged("9999", underText(">c9999;"), 17, 50, 0, 0);
    }

    private static void whoPays() {
        judged("the owner, all", underText(">h3;"), 2, 50, 0, 0);
        judged("VOID, nobody", underText(">v3;"), 3, 0, 0, 0);
        judged("the CREW of its TRADE", underText(">c;"), 17, 0, 50, 0);
        SnagBook x = underText(">c;");
        x.crew(0, 3, 0);
        judged("CREW 0", x, 10, 0, 50, 0);
        x.crew(0, 3, 9);
        judged("CREW 9", x, 19, 0, 50, 0);
        x.crew(0, 3, -1);
        judged("no CREW: the builder", x, 0, 0, 50, 0);
        x.said(0, 4);
        x.days(1);
        x.fault(0, 1, 5, 0);
        x.crew(0, 4, 8);
        DUE.is("35: the CREW that is charged with DAMAGE", x.judge(1, 0), 14);
        x.rule(0, 0);
        DUE.is("35: of no DAMAGE", x.judge(1, 0), 18);
    }

    private static void noLine() {
        judged("no LINE is so", underText("s=9>b;s=8>b;"), 2, 50, 0, -1);
        SnagBook x = keyed(10);
        x.fault(0, 0, 5, 0);
        judged("no WARRANTY", x, 2, 50, 0, -1);
        Due.text(x, 0, 11, ">b;");
        judged("none for its KEY DAY", x, 2, 50, 0, -1);
        Due.text(x, 0, 10, ">b;");
        judged("one for its KEY DAY", x, 0, 0, 50, 0);
    }

    private static void aheadOfTheKey() {
        SnagBook x = new SnagBook();
        x.home(0, 0, 0);
        x.kind(3, 10, 0);
        Due.text(x, 0, 0, ">w;");
        x.fault(0, 0, 5, 0);
        judged("no key", x, 0, 0, 50, -1);
        x.days(1);
        x.key(0, 0);
        judged("told a DAY ahead of the key", x, 0, 0, 50, -1);
        x = new SnagBook();
        x.home(0, 0, 0);
        x.kind(3, 10, 0);
        Due.text(x, 0, 0, ">w;");
        x.fault(0, 0, 5, 0);
        x.key(0, 0);
        judged("told on the KEY DAY", x, 1, 0, 50, 0);
    }

    /** What a FREEING gives of 99999 coins; names: q 1, y 2, x 0, b 0, r 99999. */
    private static int gives(String text) {
        SnagBook x = keyed(0);
        x.fault(0, 0, 1, 0);
        x.days(2);
        DUE.is("33: " + text, Due.text(x, 1, 0, text), 0);
        return x.free(0);
    }

    private static void bandsOfAFreeing() {
        right(1, "1", "1:2", "1;2", "1:2;3:4", "1:2;3;4:5", "(1)", "(1):(2)", "q+y-x*b/r");
        wrong(1, ";", 0);
        wrong(1, ":1", 0);
        wrong(1, "1:2:3", 3);
        wrong(1, "1;2:3:4", 5);
        wrong(1, "1;", 2);
        wrong(1, "1;;2", 2);
        wrong(1, "1:;2", 2);
        wrong(1, "(1;2)", 2);
        wrong(1, "(1:2)", 2);
        wrong(1, "1 ", 1);
        wrong(1, "-1", 0);
        wrong(1, "1+-1", 2);
        wrong(1, "qy", 1);
        wrong(1, "q1", 1);
        wrong(1, "1q", 1);
        wrong(1, "(1)1", 3);
        wrong(1, "(1)q", 3);
        wrong(1, "(1)(1)", 3);
        wrong(1, "1(1)", 1);
    }

    private static void numbersOfAFreeing() {
        right(1, "0", "00000", "99999", "12345+12345", "12345:12345;12345");
        wrong(1, "123456", 5);
        wrong(1, "000000", 5);
        wrong(1, "1+123456", 7);
        wrong(1, "12345:123456", 11);
        DUE.is("36: 00012", gives("00012"), 12);
        DUE.is("36: 99998", gives("99998"), 99998);
        DUE.is("36: digits of one NUMBER do not count for the next", gives("12345+12345"), 24690);
    }

    private static void sixOpen() {
        right(1, "((((((1))))))", "((((((1))))))+((((((1))))))", "((((((1)+(2))))))");
        wrong(1, "(((((((1)))))))", 6);
        wrong(1, "((((((1)+((2))))))", 10);
        wrong(1, "(1))", 3);
        wrong(1, ")", 0);
        wrong(1, "()", 1);
        wrong(1, "(1+)", 3);
        DUE.is("36: six open", gives("((((((1)+2)*3)+4)*5)+6)"), 71);
        DUE.is("36: six open, to the right", gives("9000-(800-(70-(6-(5-(4-(3))))))"), 9000 - (800 - (70 - (6 - (5 - (4 - 3))))));
        DUE.is("36: one by one", gives("(1)+(2)*(3)"), 9);
    }

    private static void fromTheLeft() {
        DUE.is("36: all signs alike, + then *", gives("1+2*3"), 9);
        DUE.is("36: * then +", gives("2*3+1"), 7);
        DUE.is("36: - then -", gives("9-3-2"), 4);
        DUE.is("36: / then *", gives("7/2*2"), 6);
        DUE.is("36: - then /", gives("9-3/2"), 3);
        DUE.is("36: in brackets first", gives("9-(3-2)"), 8);
    }

    private static void towardZero() {
        DUE.is("36: from above", gives("7/2"), 3);
        DUE.is("36: from below", gives("0-7/2+10"), 7);
        DUE.is("36: by one below 0", gives("7/(0-2)+10"), 7);
        DUE.is("36: less than 1", gives("1/2+5"), 5);
        DUE.is("36: less than 1, below 0", gives("0-1/2+5"), 5);
    }

    private static void byZero() {
        DUE.is("36: by 0 it gives 0", gives("7/0+3"), 3);
        DUE.is("36: 0 by 0", gives("0/0+3"), 3);
        DUE.is("36: by a name that is 0", gives("7/x+3"), 3);
        DUE.is("36: by brackets that are 0", gives("7/(1-1)+3"), 3);
    }

    private static void wraps() {
        DUE.is("36: * wraps: 1409865409", gives("99999*99999/20000"), 70493);
        DUE.is("36: * wraps below 0", gives("65536*32768/(0-32768)"), 65536);
        DUE.is("36: + wraps", gives("65536*32767+65535+1/(0-32768)"), 65536);
        DUE.is("36: - wraps", gives("0-(65536*32768)-1/32768"), 65535);
        DUE.is("36: the least by -1 wraps", gives("65536*32768/(0-1)/(0-32768)"), 65536);
        DUE.is("36: wraps to 0", gives("65536*65536+4"), 4);
    }

    private static void tests() {
        DUE.is("36: not 0 counts", gives("1:5;7"), 5);
        DUE.is("36: below 0 is not 0", gives("0-1:5;7"), 5);
        DUE.is("36: 0 does not count", gives("0:5;7"), 7);
        DUE.is("36: worked out to 0", gives("1-1:5;7"), 7);
        DUE.is("36: the first that counts", gives("0:5;3:6;7"), 6);
        DUE.is("36: a BAND without a TEST ends it", gives("4;1:6"), 4);
        DUE.is("36: what gives 0 ends it, too", gives("0;6"), 0);
        DUE.is("36: no BAND counts", gives("0:5;0:6"), 0);
        DUE.is("36: the TEST is not what counts", gives("9:0;7"), 0);
    }

    private static void namesOfAFreeing() {
        SnagBook x = keyed(3);
        for (int i = 0; i < 6; i++) {
            x.fault(i, 0, 1, 0);
        }
        x.fault(12, 0, 1, 0);
        x.voids(0);
        x.said(1, 0);
        x.look(1, 1);
        x.said(2, 0);
        x.said(3, 0);
        x.look(3, 0);
        x.promise(4, 3);
        x.days(1);
        Due.text(x, 1, 0, "q");
        DUE.is("36: q, OPEN, PROMISED and SAID ones", x.free(0), 4);
        Due.text(x, 1, 0, "y");
        DUE.is("36: y, a DAY since the key", x.free(0), 1);
        Due.text(x, 1, 0, "x");
        DUE.is("36: x", x.free(0), 1);
        Due.text(x, 1, 0, "b");
        DUE.is("36: b, a DAY behind", x.free(0), 1);
        Due.text(x, 1, 0, "r/2");
        DUE.is("36: r, what is KEPT BACK now", x.free(0), (99999 - 7) / 2);
        x = keyed(3);
        Due.text(x, 1, 0, "y+b+x+q");
        DUE.is("36: all 0 on the KEY DAY", x.free(0), 0);
    }

    private static void freed() {
        DUE.is("36: 0 at least", gives("0-1"), 0);
        DUE.is("36: what is KEPT BACK at most", gives("r+1"), 99999);
        DUE.is("36: all of it", gives("r"), 99999);
        SnagBook x = keyed(0);
        DUE.is("36: no FREEING", x.free(0), 0);
        Due.text(x, 1, 1, "5");
        DUE.is("36: none for its KEY DAY", x.free(0), 0);
        Due.text(x, 1, 0, "60000");
        DUE.is("36: 60000 of 99999", x.free(0), 60000);
        DUE.is("36: the rest", x.free(0), 39999);
        DUE.is("36: nothing is left", x.free(0), 0);
        DUE.is("8: FREED", x.ofHome(0, 11), 99999);
        DUE.is("8: KEPT BACK", x.ofHome(0, 10), 0);
        DUE.is("45: FREED", x.count(9), 99999);
    }

    private static void taken() {
        SnagBook x = keyed(0);
        Due.text(x, 0, 0, ">b50;");
        x.fault(0, 0, 5, 0);
        x.fault(0, 0, 6, 0);
        Due.text(x, 1, 0, "r-10");
        DUE.is("36: all but 10", x.free(0), 99989);
        DUE.is("37: a part of 0 is TAKEN, too", x.take(0), 0);
        DUE.is("15: TRULY CLOSED by that", x.state(0, 0), 3);
        DUE.is("8: nothing is TAKEN", x.ofHome(0, 12), 0);
        DUE.is("37: its part, all that is KEPT BACK", x.take(1), 10);
        DUE.is("8: TAKEN", x.ofHome(0, 12), 10);
        DUE.is("8: KEPT BACK", x.ofHome(0, 10), 0);
        DUE.is("45: TAKEN", x.count(10), 10);
        x.fault(0, 0, 6, 0);
        DUE.is("37: too little is KEPT BACK", x.take(2), -3);
        Due.text(x, 0, 0, ">b60;");
        DUE.is("37: a part of 0 of nothing KEPT BACK", x.take(2), 0);
    }
}
