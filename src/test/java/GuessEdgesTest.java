/** The edges of promises 28 to 31: GUESSES, MEAN, MULTIPLE, RETURN. */
public final class GuessEdgesTest {
    private static final int[] NO_AMOUNTS = { -1, -2, 10000000, 10000001, Integer.MIN_VALUE, Integer.MAX_VALUE };
    private static final String THREE = "common f 1; option o 1 at 1; class s 1 at 1 rank 0;";

    public static void main(String[] args) {
        guessItsEdges();
        guessIsRefused();
        eightGuessesAtMost();
        meanItsHolders();
        meanWithoutGuesses();
        meanItsBits();
        meanGuessByGuess();
        meanOfTheGreatestFractions();
        meanAsTheFirmIsNow();
        multipleItsArguments();
        multipleItsBits();
        yieldsItsArguments();
        yieldsFromWhatItWasBoughtFor();
        yieldsUpToTheGreatest();
        yieldsOverTheYears();
        refusedCallsChangeNothing();
        Check.finish();
    }

    private static void guessItsEdges() {
        int[] amounts = { 0, 1, 9999998, 9999999 };
        int[] weights = { 1, 2, 999, 1000 };
        for (int amount : amounts) {
            for (int weight : weights) {
                ExitFalls x = Check.firm("common a 1;", 1);
                Check.due("guess " + amount + " " + weight, x.guess(amount, weight), 1);
                Check.due("guesses", x.about(4), 1);
                Check.due("acts", x.about(2), 1);
                Check.due("mean", x.mean(0), Double.doubleToRawLongBits(amount * 100.0));
            }
        }
        Check.due("guess without holders", new ExitFalls().guess(5, 5), 1);
    }

    private static Made guessed(int guesses) {
        Made made = Made.of(THREE).fed("common left 17;");
        for (int i = 0; i < guesses; i++) {
            int amount = 10 + i;
            made.then(x -> x.guess(amount, 1 + amount));
        }
        return made;
    }

    private static void guessIsRefused() {
        int[][] refused = { { -1, 1 }, { 10000000, 1 }, { 5, 0 }, { 5, -1 }, { 5, 1001 }, { -1, 0 },
            { Integer.MIN_VALUE, 1 }, { Integer.MAX_VALUE, 1 }, { 5, Integer.MIN_VALUE }, { 5, Integer.MAX_VALUE } };
        int[] states = { 0, 1, 7, 8 };
        for (int[] row : refused) {
            for (int guesses : states) {
                Later.refused("guess " + row[0] + " " + row[1], guessed(guesses), x -> x.guess(row[0], row[1]), -1);
            }
            Later.refused("guess on a new object", Made.empty(), x -> x.guess(row[0], row[1]), -1);
        }
    }

    private static void eightGuessesAtMost() {
        for (int guesses = 0; guesses < 8; guesses++) {
            Check.due("one more than " + guesses, guessed(guesses).object().guess(7, 7), guesses + 1);
        }
        Later.refused("a ninth", guessed(8), x -> x.guess(7, 7), -1);
        Later.refused("a ninth like the eighth", guessed(8), x -> x.guess(17, 18), -1);
        // twelve ACTS are kept: a ninth GUESS must not push the oldest out
        Made full = guessed(8).then(x -> x.grant(0, 1)).then(x -> x.grant(0, 1)).then(x -> x.grant(0, 1))
            .then(x -> x.grant(0, 1)).then(x -> x.grant(0, 1));
        Later.refused("a ninth when twelve acts are kept", full, x -> x.guess(7, 7), -1);
        ExitFalls x = guessed(8).object();
        Check.due("undo", x.undo(), true);
        Check.due("guesses", x.about(4), 7);
        Check.due("an eighth again", x.guess(7, 7), 8);
        Check.due("no ninth", x.guess(7, 7), -1);
    }

    private static void meanItsHolders() {
        int[] none = { -1, 3, 4, 12, 31, 32, 33, Integer.MIN_VALUE, Integer.MAX_VALUE };
        for (int h : none) {
            Check.due("mean of " + h, guessed(1).object().mean(h), -2);
            Check.due("mean of " + h + " without guesses", guessed(0).object().mean(h), -2);
        }
        // 10 units and a STRIKE of 1 are three times v
        Check.due("mean of the first", guessed(1).object().mean(0), Double.doubleToRawLongBits(1100.0 / 3.0));
        Check.due("mean of the option", guessed(1).object().mean(1), Double.doubleToRawLongBits(800.0 / 3.0));
        Check.due("mean of the last", guessed(1).object().mean(2), Double.doubleToRawLongBits(1100.0 / 3.0));
        Check.due("mean of no holders", new ExitFalls().mean(0), -2);
    }

    private static void meanWithoutGuesses() {
        ExitFalls x = guessed(0).object();
        for (int h = 0; h < 3; h++) {
            Check.due("mean", x.mean(h), 0);
        }
        x.guess(10, 1);
        Check.due("mean", x.mean(0) > 0, true);
        x.undo();
        Check.due("mean without again", x.mean(0), 0);
    }

    private static void meanBits(String text, int amount, double want) {
        ExitFalls x = new ExitFalls();
        Check.read(x, text);
        Check.due("guess", x.guess(amount, 1), 1);
        Check.due("mean of " + text + " by " + amount, x.mean(0), Double.doubleToRawLongBits(want));
    }

    /** Below 1, just 1, just 2, up to the greatest, the least that there is. */
    private static void meanItsBits() {
        meanBits("common a 1;", 0, 0.0);
        meanBits("common a 1; common b 99;", 1, 1.0);
        meanBits("common a 1; common b 98;", 1, 100.0 / 99.0);
        meanBits("common a 1; common b 100;", 1, 100.0 / 101.0);
        meanBits("common a 1; common b 49;", 1, 2.0);
        meanBits("common a 1; common b 50;", 1, 100.0 / 51.0);
        meanBits("common a 1; common b 48;", 1, 100.0 / 49.0);
        meanBits("common a 1; common b 199;", 1, 0.5);
        meanBits("common a 1; common b 200;", 1, 100.0 / 201.0);
        meanBits("common a 1;", 9999999, 999999900.0);
        meanBits("common a 1; common b 9999; common c 9999;", 1, 100.0 / 19999.0);
        String most = " 9999 at 99 rank 0 times 400 yearly 30 20;";
        meanBits("class a 1 at 1 rank 0 times 1; class b" + most + "class c" + most + "class d" + most
            + "class e" + most + "class f" + most, 1, 100.0 / (1.0 + 5.0 * 989901000.0));
    }

    private static void meanGuessByGuess() {
        int[][] amounts = { { 77, 614, 4032981 }, { 59, 290, 3357234 }, { 38, 901, 7345456 } };
        int[][] weights = { { 7, 577, 4 }, { 17, 56, 7 }, { 16, 797, 5 } };
        for (int i = 0; i < 3; i++) {
            ExitFalls x = Check.firm("common a 1; common b 2;", 2);
            double sum = 0.0;
            double back = 0.0;
            int all = 0;
            for (int k = 0; k < 3; k++) {
                Check.due("guess", x.guess(amounts[i][k], weights[i][k]), k + 1);
                sum += weights[i][k] * (amounts[i][k] * 100.0 / 3.0);
                back += weights[i][2 - k] * (amounts[i][2 - k] * 100.0 / 3.0);
                all += weights[i][k];
                Check.due("mean of " + (k + 1), x.mean(0), Double.doubleToRawLongBits(sum / all));
            }
            Check.due("the other way round it is another one", sum / all == back / all, false);
        }
    }

    private static void meanOfTheGreatestFractions() {
        String most = " 9999 at 99 rank 3 times 400 ratio 400 yearly 30 20;";
        ExitFalls x = Check.firm("class a" + most + "class b" + most + "class c" + most + "class d" + most
            + "class e" + most + "class f 9998 at 97 rank 3 times 399 yearly 29 19;", 6);
        for (int i = 0; i < 8; i++) {
            Check.due("guess", x.guess(9999999, 1000), i + 1);
        }
        for (int h = 0; h < 6; h++) {
            double has = (double) x.has(h, 9999999, 0) / (double) x.has(h, 9999999, 1);
            double sum = 0.0;
            for (int i = 0; i < 8; i++) {
                sum += 1000.0 * has;
            }
            Check.due("mean", x.mean(h), Double.doubleToRawLongBits(sum / 8000.0));
        }
    }

    private static void meanAsTheFirmIsNow() {
        ExitFalls x = Check.firm("common a 1; class b 1 at 10 rank 0;", 2);
        x.guess(10, 5);
        Check.due("nothing for a", x.mean(0), 0);
        x.waive(1, true);
        Check.due("half for a", x.mean(0), Double.doubleToRawLongBits(500.0));
        x.undo();
        Check.due("nothing for a", x.mean(0), 0);
    }

    private static void multipleItsArguments() {
        ExitFalls x = Check.firm(THREE, 3);
        for (int amount : NO_AMOUNTS) {
            Check.due("multiple by " + amount, x.multiple(2, amount), -2);
        }
        int[] others = { 0, 1, -1, 3, 4, 12, 34, Integer.MIN_VALUE, Integer.MAX_VALUE };
        for (int h : others) {
            Check.due("multiple of " + h, x.multiple(h, 5), -2);
        }
        Check.due("multiple by 0", x.multiple(2, 0), 0);
        Check.due("multiple by all", x.multiple(2, 9999999), Float.floatToRawIntBits(1000000000f / 3f / 100f));
    }

    private static void multipleBits(String text, int amount, float want) {
        ExitFalls x = new ExitFalls();
        Check.read(x, text);
        Check.due("multiple of " + text + " by " + amount, x.multiple(0, amount), Float.floatToRawIntBits(want));
    }

    private static void multipleItsBits() {
        multipleBits("class s 100 at 1 rank 0;", 99, 9900f / 10000f);
        multipleBits("class s 100 at 1 rank 0;", 100, 1f);
        multipleBits("class s 100 at 1 rank 0;", 101, 10100f / 10000f);
        multipleBits("class s 100 at 1 rank 0;", 199, 19900f / 10000f);
        multipleBits("class s 100 at 1 rank 0;", 200, 2f);
        multipleBits("class s 100 at 1 rank 0;", 201, 20100f / 10000f);
        multipleBits("class s 100 at 1 rank 0;", 50, 0.5f);
        multipleBits("class s 1 at 1 rank 0;", 9999999, 999999900f / 100f);
        multipleBits("class s 9999 at 99 rank 0;", 1, 100f / 98990100f);
        multipleBits("class s 1 at 1 rank 0; class t 2 at 1 rank 0;", 1, 100f / 3f / 100f);
        // cut to a float above and below, not their quotient
        multipleBits("class s 3 at 7 rank 0 times 0; common f 4;", 9999998, 2999999400f / 7f / 2100f);
        multipleBits("class s 1 at 99 rank 0 times 1; class t 9999 at 99 rank 0 times 400 yearly 30 20;", 1,
            100f / (1f + 9999000f) / 9900f);
        // bought for PRICE, whatever its TIMES, and also when it is WAIVED
        multipleBits("class s 1 at 10 rank 0 times 400;", 40, 4f);
        ExitFalls x = Check.firm("class s 1 at 10 rank 0;", 1);
        x.waive(0, true);
        Check.due("waived", x.multiple(0, 40), Float.floatToRawIntBits(4f));
        x.grant(0, 1);
        Check.due("more shares were bought for more", x.multiple(0, 40), Float.floatToRawIntBits(2f));
    }

    private static void yieldsItsArguments() {
        ExitFalls x = Check.firm(THREE, 3);
        for (int amount : NO_AMOUNTS) {
            Check.due("yields by " + amount, x.yields(2, amount, 1), -2);
        }
        int[] others = { 0, 1, -1, 3, 4, 12, 34, Integer.MIN_VALUE, Integer.MAX_VALUE };
        for (int h : others) {
            Check.due("yields of " + h, x.yields(h, 5, 1), -2);
        }
        int[] years = { 0, -1, 21, 22, Integer.MIN_VALUE, Integer.MAX_VALUE };
        for (int y : years) {
            Check.due("yields over " + y, x.yields(2, 5, y), -2);
        }
        for (int y = 1; y <= 20; y++) {
            Check.due("yields over " + y, x.yields(2, 1, y), 0);
        }
    }

    private static ExitFalls alone() {
        return Check.firm("class s 100 at 1 rank 0;", 1);
    }

    private static void yieldsFromWhatItWasBoughtFor() {
        ExitFalls x = alone();
        for (int y = 1; y <= 20; y++) {
            Check.due("nothing", x.yields(0, 0, y), -1);
            Check.due("less", x.yields(0, 99, y), -1);
            Check.due("as much", x.yields(0, 100, y), 0);
        }
        Check.due("one of a hundred more", x.yields(0, 101, 1), 1);
        Check.due("not over two years", x.yields(0, 101, 2), 0);
        // half a unit less than it was bought for, a part of a hundredth, a hundredth
        Check.due("99.50 units", Check.firm("class s 100 at 1 rank 0 times 0; common f 100;", 2).yields(0, 199, 1), -1);
        Check.due("100 units", Check.firm("class s 100 at 1 rank 0 times 0; common f 100;", 2).yields(0, 200, 1), 0);
        ExitFalls near = Check.firm("class s 9998 at 1 rank 0 times 0; common f 1;", 2);
        Check.due("less than a unit too little", near.yields(0, 9998, 1), -1);
        Check.due("just as much", near.yields(0, 9999, 1), 0);
        int[][] times = { { 99, -1 }, { 100, 0 }, { 101, 0 } };
        for (int[] row : times) {
            ExitFalls one = Check.firm("class s 1 at 1 rank 0 times " + row[0] + "; common f 9999;", 2);
            Check.due("a hundredth less, just as much", one.yields(0, 1, 1), row[1]);
        }
        ExitFalls waived = alone();
        waived.waive(0, true);
        Check.due("waived, it was bought all the same", waived.yields(0, 99, 1), -1);
        Check.due("waived, it was bought all the same", waived.yields(0, 100, 1), 0);
    }

    private static void yieldsUpToTheGreatest() {
        ExitFalls x = alone();
        Check.due("997", x.yields(0, 1097, 1), 997);
        Check.due("998", x.yields(0, 1098, 1), 998);
        Check.due("999", x.yields(0, 1099, 1), 999);
        Check.due("no more than 999", x.yields(0, 1100, 1), 999);
        Check.due("no more than 999", x.yields(0, 9999999, 1), 999);
        Check.due("over two years", x.yields(0, 12078, 2), 998);
        Check.due("over two years", x.yields(0, 12079, 2), 999);
        Check.due("over two years", x.yields(0, 12100, 2), 999);
    }

    private static void yieldsOverTheYears() {
        ExitFalls one = Check.firm("class s 1 at 1 rank 0;", 1);
        for (int y = 1; y <= 20; y++) {
            int doubled = 1 << y;
            Check.due("doubled each year", one.yields(0, doubled, y), 100);
            Check.due("not quite", one.yields(0, doubled - 1, y), y == 1 ? 0 : greatest(doubled - 1, y));
        }
        Check.due("over 20 years, not quite", one.yields(0, 1048575, 20), 99);
        // as doubles 10000 times 1.1 times 1.1 is more than 12100
        ExitFalls x = alone();
        Check.due("1.1 in one year", x.yields(0, 110, 1), 10);
        Check.due("1.21 in two", x.yields(0, 121, 2), 9);
        Check.due("1.22 in two", x.yields(0, 122, 2), 10);
    }

    private static int greatest(int times, int years) {
        int best = -1;
        for (int r = 0; r <= 999; r++) {
            double grown = 100.0;
            for (int i = 0; i < years; i++) {
                grown *= 1.0 + r / 100.0;
            }
            best = grown <= times * 100.0 ? r : best;
        }
        return best;
    }

    private static void refusedCallsChangeNothing() {
        Later.refused("mean of none", guessed(3), x -> x.mean(3), -2);
        Later.refused("multiple of common", guessed(3), x -> x.multiple(0, 5), -2);
        Later.refused("yields of option", guessed(3), x -> x.yields(1, 5, 1), -2);
        Later.refused("yields over no years", guessed(3), x -> x.yields(2, 5, 0), -2);
        Later.refused("yields less than it was bought for", guessed(3), x -> x.yields(2, 0, 1), -1);
    }
}
