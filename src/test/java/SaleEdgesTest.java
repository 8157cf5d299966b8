import java.util.function.Supplier;

/** The edges of promises 25 to 27: the SALE closed, let go, lost. */
public final class SaleEdgesTest {
    private static final String FIRM = "common f 3; class s 10 at 10 rank 0; carve 10;";

    public static void main(String[] args) {
        closeItsEdges();
        closeIsRefused();
        heldIsCut();
        anotherSaleGoes();
        releaseItsEdges();
        releaseIsRefused();
        bitByBit();
        saleWithoutOne();
        saleItsWhats();
        saleOfTwelve();
        howMuchMore();
        saleAsTheFirmIsNow();
        everythingLost();
        undoOfSales();
        Check.finish();
    }

    private static void looks(ExitFalls x, int amount, int held, int dealt, int lost) {
        Check.due("amount", x.sale(0), amount);
        Check.due("held", x.sale(1), held);
        Check.due("dealt", x.sale(2), dealt);
        Check.due("lost", x.sale(3), lost);
    }

    private static Made closed(int amount, int held) {
        return Made.of(FIRM).then(x -> x.close(amount, held)).fed("common left 17;");
    }

    /** States in which a call can be refused: none closed, one closed, one let go and lost in part, all twelve ACTS kept. */
    private static Made[] states() {
        Made full = Made.of(FIRM);
        for (int i = 0; i < 14; i++) {
            int amount = 100 + i;
            full.then(x -> x.close(amount, 50));
        }
        return new Made[] { Made.empty(), Made.of(FIRM).fed("carve 1;"), closed(100, 50),
            closed(100, 50).then(x -> x.release(7, false)).then(x -> x.release(5, true)), full };
    }

    private static void closeItsEdges() {
        int[] amounts = { 0, 1, 9999998, 9999999 };
        for (int amount : amounts) {
            ExitFalls x = Check.firm(FIRM, 2);
            Check.due("none held", x.close(amount, 0), amount);
            looks(x, amount, 0, amount, 0);
            Check.due("all held", x.close(amount, 100), 0);
            looks(x, amount, amount, 0, 0);
            Check.due("acts", x.about(2), 2);
        }
        ExitFalls without = new ExitFalls();
        Check.due("closed without holders", without.close(9, 50), 5);
        looks(without, 9, 4, 5, 0);
    }

    private static void closeIsRefused() {
        int[][] refused = { { -1, 0 }, { -1, 50 }, { 10000000, 0 }, { 10000000, 100 }, { 5, -1 }, { 5, 101 }, { 0, -1 },
            { 9999999, 101 }, { Integer.MIN_VALUE, 50 }, { Integer.MAX_VALUE, 50 }, { 5, Integer.MIN_VALUE },
            { 5, Integer.MAX_VALUE } };
        for (int[] row : refused) {
            for (Made made : states()) {
                Later.refused("close " + row[0] + " " + row[1], made, x -> x.close(row[0], row[1]), -1);
            }
        }
    }

    private static void held(int amount, int ofHundred, int held) {
        ExitFalls x = new ExitFalls();
        Check.due("close " + amount + " " + ofHundred, x.close(amount, ofHundred), amount - held);
        looks(x, amount, held, amount - held, 0);
    }

    private static void heldIsCut() {
        held(1, 99, 0);
        held(1, 100, 1);
        held(2, 49, 0);
        held(2, 50, 1);
        held(2, 51, 1);
        held(99, 1, 0);
        held(100, 1, 1);
        held(101, 1, 1);
        held(199, 50, 99);
        held(200, 50, 100);
        held(9999999, 99, 9899999);
        held(9999999, 1, 99999);
        held(9999999, 50, 4999999);
        held(9999999, 100, 9999999);
    }

    private static void anotherSaleGoes() {
        ExitFalls x = closed(100, 50).object();
        x.release(10, true);
        x.release(5, false);
        looks(x, 100, 35, 55, 10);
        Check.due("close", x.close(20, 25), 15);
        looks(x, 20, 5, 15, 0);
        Check.due("acts", x.about(2), 4);
    }

    private static void releaseItsEdges() {
        boolean[] both = { false, true };
        for (boolean lost : both) {
            Check.due("one", closed(100, 50).object().release(1, lost), 49);
            Check.due("all but one", closed(100, 50).object().release(49, lost), 1);
            Check.due("all", closed(100, 50).object().release(50, lost), 0);
            Check.due("the most", closed(9999999, 100).object().release(9999999, lost), 0);
        }
    }

    private static void releaseIsRefused() {
        int[] more = { 0, -1, 51, 100, 101, Integer.MIN_VALUE, Integer.MAX_VALUE };
        boolean[] both = { false, true };
        for (boolean lost : both) {
            for (int n : more) {
                Later.refused("release " + n + " of 50", closed(100, 50), x -> x.release(n, lost), -1);
            }
            Later.refused("release 1 without a sale", Made.of(FIRM), x -> x.release(1, lost), -1);
            Later.refused("release 1 of a new object", Made.empty(), x -> x.release(1, lost), -1);
            Later.refused("release 0 without a sale", Made.empty(), x -> x.release(0, lost), -1);
            Later.refused("release 1 of none held", closed(100, 0), x -> x.release(1, lost), -1);
            Later.refused("release 1 of a sale of nothing", closed(0, 100), x -> x.release(1, lost), -1);
            Later.refused("release 1 when all is let go", closed(100, 50).then(x -> x.release(50, !lost)),
                x -> x.release(1, lost), -1);
            Later.refused("release 31 of 30", closed(100, 50).then(x -> x.release(20, lost)), x -> x.release(31, lost), -1);
            Later.refused("release of a sale undone", closed(100, 50).then(x -> x.undo() ? 1 : 0),
                x -> x.release(1, lost), -1);
            // twelve ACTS are kept: one that is refused must not push the oldest out
            Later.refused("release 57 of 56", states()[4], x -> x.release(57, lost), -1);
        }
    }

    private static void bitByBit() {
        ExitFalls x = closed(10, 100).object();
        for (int i = 1; i <= 10; i++) {
            Check.due("release", x.release(1, i % 2 == 0), 10 - i);
            looks(x, 10, 10 - i, (i + 1) / 2, i / 2);
        }
        Check.due("nothing is held any more", x.release(1, false), -1);
        Check.due("acts", x.about(2), 11);
    }

    private static void saleWithoutOne() {
        Supplier<ExitFalls> undone = () -> closed(100, 50).then(x -> x.undo() ? 1 : 0).object();
        ExitFalls[] none = { new ExitFalls(), Check.firm(FIRM, 2), undone.get() };
        int[] whats = { -1, 0, 1, 2, 3, 4, 9, 10, 11, 12, 99, 100, 101, 102, Integer.MIN_VALUE, Integer.MAX_VALUE };
        for (ExitFalls x : none) {
            for (int what : whats) {
                Check.due("sale " + what + " without", x.sale(what), -2);
            }
        }
    }

    private static void saleItsWhats() {
        ExitFalls x = closed(1001, 33).object();
        looks(x, 1001, 330, 671, 0);
        Check.due("paid f", x.sale(10), 139);
        Check.due("paid s", x.sale(11), 465);
        Check.due("more for f", x.sale(100), 69);
        Check.due("more for s", x.sale(101), 228);
        int[] none = { -1, -2, 4, 5, 9, 12, 13, 21, 22, 98, 99, 102, 103, 110, 111, 112, -10, -100,
            Integer.MIN_VALUE, Integer.MIN_VALUE + 10, Integer.MAX_VALUE };
        for (int what : none) {
            Check.due("sale " + what, x.sale(what), -2);
        }
        ExitFalls without = new ExitFalls();
        without.close(10, 50);
        Check.due("sale 10 without holders", without.sale(10), -2);
        Check.due("sale 100 without holders", without.sale(100), -2);
    }

    private static void saleOfTwelve() {
        StringBuilder text = new StringBuilder();
        for (char c = 'a'; c < 'd'; c++) {
            text.append("common ").append(c).append(" 1;option o").append(c).append(" 1 at 999;");
        }
        for (char c = 'd'; c < 'j'; c++) {
            text.append("class ").append(c).append(" 1 at 1 rank 0 times 0;");
        }
        ExitFalls x = Check.firm(text.toString(), 12);
        x.close(180, 50);
        for (int h = 0; h < 12; h++) {
            boolean isOption = h < 6 && h % 2 == 1;
            Check.due("paid " + h, x.sale(10 + h), isOption ? 0 : 10);
            Check.due("more " + h, x.sale(100 + h), isOption ? 0 : 10);
        }
        Check.due("no more", x.sale(22), -2);
        Check.due("none before", x.sale(9), -2);
        Check.due("no more", x.sale(112), -2);
        Check.due("none before", x.sale(99), -2);
    }

    private static void howMuchMore() {
        // of 10 they have 4.29, 4.29, 1.43, of 11 they have 4.71, 4.71, 1.57
        ExitFalls x = Check.firm("common a 6; common b 6; common c 2;", 3);
        Check.due("close", x.close(11, 10), 10);
        Check.due("a", x.sale(10), 4);
        Check.due("b", x.sale(11), 4);
        Check.due("c", x.sale(12), 2);
        Check.due("a has more", x.sale(100), 1);
        Check.due("b has more", x.sale(101), 1);
        Check.due("c has less", x.sale(102), -1);
        Check.due("release", x.release(1, false), 0);
        Check.due("a", x.sale(10), 5);
        Check.due("c", x.sale(12), 1);
        for (int h = 0; h < 3; h++) {
            Check.due("no more when nothing is held", x.sale(100 + h), 0);
        }
        // what is lost is let go no more
        x.close(11, 10);
        x.release(1, true);
        Check.due("c", x.sale(12), 2);
        Check.due("no more", x.sale(102), 0);
    }

    private static void saleAsTheFirmIsNow() {
        ExitFalls x = Check.firm("common a 1; class b 1 at 10 rank 0;", 2);
        x.close(20, 50);
        Check.due("b has all that is dealt", x.sale(11), 10);
        Check.due("a would have the rest", x.sale(100), 10);
        x.waive(1, true);
        Check.due("halves", x.sale(11), 5);
        Check.due("halves", x.sale(100), 5);
        x.grant(0, 1);
        Check.due("a third", x.sale(11), 3);
        Check.due("two thirds", x.sale(10), 7);
        Check.due("dealt stays", x.sale(2), 10);
    }

    private static void everythingLost() {
        ExitFalls x = closed(9999999, 100).object();
        Check.due("lost", x.release(9999999, true), 0);
        looks(x, 9999999, 0, 0, 9999999);
        Check.due("nothing is paid", x.sale(10), 0);
        Check.due("nothing more", x.sale(100), 0);
        ExitFalls y = closed(9999999, 100).object();
        Check.due("let go", y.release(9999999, false), 0);
        looks(y, 9999999, 0, 9999999, 0);
    }

    private static void undoOfSales() {
        ExitFalls x = Check.firm(FIRM, 2);
        x.close(100, 50);
        x.release(10, true);
        x.release(5, false);
        x.close(7, 0);
        Check.due("undo", x.undo(), true);
        looks(x, 100, 35, 55, 10);
        Check.due("undo", x.undo(), true);
        looks(x, 100, 40, 50, 10);
        Check.due("undo", x.undo(), true);
        looks(x, 100, 50, 50, 0);
        Check.due("undo", x.undo(), true);
        Check.due("none", x.sale(0), -2);
        Check.due("none", x.sale(3), -2);
        Check.due("undo", x.undo(), false);
        Check.due("close again", x.close(3, 34), 2);
        looks(x, 3, 1, 2, 0);
    }
}
