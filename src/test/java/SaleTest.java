/** Promises 25 to 31: the SALE, GUESSES and what things are worth, by hand. */
public final class SaleTest {
    public static void main(String[] args) {
        sale();
        saleOfHolders();
        bitByBit();
        guesses();
        multiples();
        yields();
        Check.finish();
    }

    private static void looks(ExitFalls x, int amount, int held, int dealt, int lost) {
        Check.due("amount", x.sale(0), amount);
        Check.due("held", x.sale(1), held);
        Check.due("dealt", x.sale(2), dealt);
        Check.due("lost", x.sale(3), lost);
    }

    private static void sale() {
        ExitFalls x = Check.firm("common f 3; class s 10 at 10 rank 0; carve 10;", 2);
        Check.due("release without", x.release(1, false), -1);
        Check.due("sale without", x.sale(10), -2);
        Check.due("close -1", x.close(-1, 0), -1);
        Check.due("close beyond", x.close(10000000, 0), -1);
        Check.due("close held -1", x.close(1, -1), -1);
        Check.due("close held 101", x.close(1, 101), -1);
        Check.due("no acts", x.about(2), 0);
        Check.due("no sale", x.sale(0), -2);
        Check.due("close", x.close(9999999, 100), 0);
        looks(x, 9999999, 9999999, 0, 0);
        Check.due("close", x.close(9999999, 99), 100000);
        looks(x, 9999999, 9899999, 100000, 0);
        Check.due("close with none held", x.close(123, 0), 123);
        looks(x, 123, 0, 123, 0);
        x.undo();
        Check.due("close nothing", x.close(0, 50), 0);
        looks(x, 0, 0, 0, 0);
        Check.due("release nothing held", x.release(1, true), -1);
        Check.due("acts", x.about(2), 3);
        x.undo();
        looks(x, 9999999, 9899999, 100000, 0);
        x.undo();
        looks(x, 9999999, 9999999, 0, 0);
        x.undo();
        Check.due("no sale again", x.sale(0), -2);
    }

    private static void saleOfHolders() {
        ExitFalls x = Check.firm("common f 3; class s 10 at 10 rank 0; carve 10;", 2);
        Check.due("close", x.close(1001, 33), 671);
        looks(x, 1001, 330, 671, 0);
        Check.due("paid f", x.sale(10), 139);
        Check.due("paid s", x.sale(11), 465);
        Check.due("more for f", x.sale(100), 69);
        Check.due("more for s", x.sale(101), 228);
        int[] none = { -1, 4, 9, 12, 22, 99, 102, 110, 112, Integer.MIN_VALUE, Integer.MAX_VALUE };
        for (int what : none) {
            Check.due("sale " + what, x.sale(what), -2);
        }
        ExitFalls y = Check.firm("common a 1; common b 4; common c 2;", 3);
        // by more, less: 1.4285, 5.714, 2.857 of 10; 1.571, 6.286, 3.143 of 11
        Check.due("close", y.close(11, 10), 10);
        Check.due("a has less by 10", y.sale(10), 1);
        Check.due("and more by 11", y.sale(100), 1);
        Check.due("b by 10", y.sale(11), 6);
        Check.due("b no more by 11", y.sale(101), 0);
        Check.due("c by 10", y.sale(12), 3);
        Check.due("c no more by 11", y.sale(102), 0);
    }

    private static void bitByBit() {
        ExitFalls x = new ExitFalls();
        Check.due("close", x.close(1000, 20), 800);
        Check.due("release 0", x.release(0, false), -1);
        Check.due("release -1", x.release(-1, true), -1);
        Check.due("release too much", x.release(201, true), -1);
        Check.due("let go", x.release(50, false), 150);
        looks(x, 1000, 150, 850, 0);
        Check.due("lost", x.release(30, true), 120);
        looks(x, 1000, 120, 850, 30);
        Check.due("all let go", x.release(120, false), 0);
        looks(x, 1000, 0, 970, 30);
        Check.due("acts", x.about(2), 4);
        Check.due("undo", x.undo(), true);
        Check.due("one lost", x.release(1, true), 119);
        looks(x, 1000, 119, 850, 31);
        Check.due("undo", x.undo(), true);
        looks(x, 1000, 120, 850, 30);
        Check.due("another sale", x.close(7, 50), 4);
        looks(x, 7, 3, 4, 0);
        Check.due("undo", x.undo(), true);
        looks(x, 1000, 120, 850, 30);
        Check.due("undo", x.undo(), true);
        looks(x, 1000, 150, 850, 0);
    }

    private static void guesses() {
        ExitFalls x = Check.firm("common a 1; common b 2;", 2);
        Check.due("mean without", x.mean(0), 0);
        Check.due("mean of none", x.mean(2), -2);
        Check.due("guess weight 0", x.guess(1, 0), -1);
        Check.due("guess weight 1001", x.guess(1, 1001), -1);
        Check.due("guess amount", x.guess(-1, 1), -1);
        Check.due("guess amount", x.guess(10000000, 1), -1);
        Check.due("no acts", x.about(2), 0);
        Check.due("guess", x.guess(100, 1), 1);
        Check.due("guess", x.guess(0, 1000), 2);
        Check.due("guess", x.guess(9999999, 7), 3);
        double sum = 0.0 + 1.0 * (10000.0 / 3.0) + 1000.0 * (0.0 / 1.0) + 7.0 * (333333300.0 / 1.0);
        Check.due("mean", x.mean(0), Double.doubleToRawLongBits(sum / 1008.0));
        Check.due("mean of none", x.mean(2), -2);
        Check.due("mean of none", x.mean(-1), -2);
        for (int i = 4; i <= 8; i++) {
            Check.due("guess", x.guess(i, i), i);
        }
        Check.due("guess too many", x.guess(1, 1), -1);
        Check.due("guesses", x.about(4), 8);
        Check.due("acts", x.about(2), 8);
        for (int i = 0; i < 5; i++) {
            x.undo();
        }
        Check.due("guesses", x.about(4), 3);
        Check.due("mean again", x.mean(0), Double.doubleToRawLongBits(sum / 1008.0));
        ExitFalls one = Check.firm("common a 1; common b 2;", 2);
        one.guess(5, 1);
        Check.due("mean of one guess", one.mean(1), Double.doubleToRawLongBits(1000.0 / 3.0));
        ExitFalls nothing = Check.firm("option o 1 at 9;", 1);
        nothing.guess(0, 5);
        Check.due("mean of nothing", nothing.mean(0), 0);
    }

    private static void multiples() {
        ExitFalls x = Check.firm("common f 1; option o 1 at 1; class s 7 at 13 rank 0; class t 3 at 10 rank 0 sharing;", 4);
        float has = 50.0f * 100 * 9100 / 12100;
        Check.due("has", x.has(2, 50, 1), 121);
        Check.due("multiple", x.multiple(2, 50), Float.floatToRawIntBits((float) x.has(2, 50, 0) / 121f / 9100f));
        Check.due("about what it is", Math.abs((float) x.has(2, 50, 0) / 121f - has) < 0.01, true);
        Check.due("multiple of nothing", x.multiple(2, 0), 0);
        Check.due("multiple of common", x.multiple(0, 50), -2);
        Check.due("multiple of option", x.multiple(1, 50), -2);
        Check.due("multiple of none", x.multiple(4, 50), -2);
        Check.due("multiple amount", x.multiple(2, -1), -2);
        Check.due("multiple amount", x.multiple(2, 10000000), -2);
        Check.due("multiple of one", Check.firm("class s 1 at 1 rank 0;", 1).multiple(0, 1), Float.floatToRawIntBits(1f));
        Check.due("the greatest multiple", Check.firm("class s 1 at 1 rank 0;", 1).multiple(0, 9999999),
            Float.floatToRawIntBits(9999999f * 100f / 100f));
    }

    private static void yields() {
        ExitFalls x = Check.firm("class s 10 at 10 rank 0; common f 1; option o 1 at 1;", 3);
        Check.due("has less", x.yields(0, 99, 1), -1);
        Check.due("has as much", x.yields(0, 100, 1), 0);
        ExitFalls y = Check.firm("class s 10 at 10 rank 0;", 1);
        Check.due("ten of a hundred in one year", y.yields(0, 110, 1), 10);
        // 10000 * 1.1 * 1.1 is above 12100 as doubles
        Check.due("not quite ten in two", y.yields(0, 121, 2), 9);
        Check.due("ten in two", y.yields(0, 122, 2), 10);
        Check.due("the greatest", y.yields(0, 9999999, 1), 999);
        Check.due("in twenty years", y.yields(0, 9999999, 20), 77);
        Check.due("in no years", y.yields(0, 100, 0), -2);
        Check.due("in too many", y.yields(0, 100, 21), -2);
        Check.due("of common", x.yields(1, 100, 1), -2);
        Check.due("of option", x.yields(2, 100, 1), -2);
        Check.due("of none", x.yields(3, 100, 1), -2);
        Check.due("amount", x.yields(0, 10000000, 1), -2);
    }
}
