/** Promise 1, and the constants. */
public final class NewBookTest {
    public static void main(String[] args) {
        Due due = new Due();
        due.is("NONE", SnagBook.NONE, -1);
        due.is("FULL", SnagBook.FULL, -2);
        due.is("STATE", SnagBook.STATE, -3);
        due.is("NOT", SnagBook.NOT, -4);
        due.is("BIG", SnagBook.BIG, -5);
        due.is("NO_VALUE", SnagBook.NO_VALUE, -2000000000);
        SnagBook x = new SnagBook();
        for (int what = 0; what <= 11; what++) {
            due.is("count(" + what + ")", x.count(what), 0);
        }
        due.is("rule(0, 14)", x.rule(0, 14), 14);
        due.is("rule(1, 100)", x.rule(1, 100), 100);
        for (int trade = 0; trade < 10; trade++) {
            due.is("men(" + trade + ", 1)", x.men(trade, 1), 1);
        }
        due.end("NewBookTest");
    }
}
