/** The edges of promises 22 to 24: what each has by CHOICES, which are STEADY. */
public final class ChoiceEdgesTest {
    private static final int[] NO_AMOUNTS = { -1, -2, 10000000, 10000001, Integer.MIN_VALUE, Integer.MAX_VALUE };

    public static void main(String[] args) {
        chosenItsArguments();
        steadyItsArguments();
        steadiesItsArguments();
        prefsOfThoseThatDontTurnFirst();
        thoseThatTurnHaveNoPref();
        withCapUpToTop();
        topThatIsPref();
        sharingWithoutCapHasNoBit();
        commonsAndOptionsHaveNoBit();
        whatIsLeftNobodyHas();
        optionsTakeWhatIsLeft();
        asMuchIsNotMore();
        oneThatIsWaivedChooses();
        allSetsOfSix();
        theKthByNumbers();
        withCarve();
        refusedCallsChangeNothing();
        Check.finish();
    }

    private static void chosen(ExitFalls x, int set, int amount, long... want) {
        for (int h = 0; h < want.length; h++) {
            Check.fraction("chosen " + set + " " + h + " by " + amount,
                x.chosen(set, h, amount, 0), x.chosen(set, h, amount, 1), want[h], 1);
        }
    }

    private static void steadies(ExitFalls x, int amount, int... want) {
        Check.due("steadies by " + amount, x.steadies(amount, -1), want.length);
        for (int k = 0; k < want.length; k++) {
            Check.due("steadies " + k + " by " + amount, x.steadies(amount, k), want[k]);
            Check.due("steady " + want[k] + " by " + amount, x.steady(want[k], amount), 1);
        }
        Check.due("no more steadies by " + amount, x.steadies(amount, want.length), -1);
    }

    private static ExitFalls pair() {
        return Check.firm("class a 10 at 10 rank 0; common f 10;", 2);
    }

    private static void chosenItsArguments() {
        ExitFalls x = pair();
        for (int amount : NO_AMOUNTS) {
            Check.due("chosen by " + amount, x.chosen(0, 0, amount, 0), -2);
            Check.due("chosen by " + amount, x.chosen(1, 1, amount, 1), -2);
        }
        int[] holders = { -1, 2, 3, 12, 31, 32, 33, Integer.MIN_VALUE, Integer.MAX_VALUE };
        for (int h : holders) {
            Check.due("chosen of " + h, x.chosen(0, h, 10, 0), -2);
        }
        int[] whats = { -1, 2, 3, Integer.MIN_VALUE, Integer.MAX_VALUE };
        for (int what : whats) {
            Check.due("chosen " + what, x.chosen(0, 0, 10, what), -2);
        }
        chosen(x, 0, 0, 0, 0);
        chosen(x, 1, 0, 0, 0);
        chosen(x, 0, 9999999, 10000, 999989900);
        chosen(x, 1, 9999999, 499999950, 499999950);
        Check.fraction("lowest terms", Check.firm("class a 2 at 1 rank 0; common f 4;", 2).chosen(1, 0, 1, 0),
            Check.firm("class a 2 at 1 rank 0; common f 4;", 2).chosen(1, 0, 1, 1), 100, 3);
        Check.due("chosen without holders", new ExitFalls().chosen(0, 0, 10, 0), -2);
    }

    private static void steadyItsArguments() {
        ExitFalls x = pair();
        for (int amount : NO_AMOUNTS) {
            Check.due("steady by " + amount, x.steady(0, amount), -2);
            Check.due("steady by " + amount, new ExitFalls().steady(0, amount), -2);
        }
        Check.due("steady by 0", x.steady(0, 0), 1);
        Check.due("steady by all", x.steady(0, 9999999), 0);
        Check.due("steady by all", x.steady(1, 9999999), 1);
        int[] sets = { 0, 1, -1, Integer.MIN_VALUE, Integer.MAX_VALUE };
        for (int set : sets) {
            Check.due("steady without holders", new ExitFalls().steady(set, 0), 1);
            Check.due("steady of commons alone", Check.firm("common a 1;", 1).steady(set, 5), 1);
        }
    }

    private static void steadiesItsArguments() {
        ExitFalls x = pair();
        for (int amount : NO_AMOUNTS) {
            Check.due("steadies by " + amount, x.steadies(amount, -1), -2);
            Check.due("steadies by " + amount, x.steadies(amount, 0), -2);
            Check.due("steadies by " + amount, x.steadies(amount, 99), -2);
        }
        steadies(x, 0, 0, 1);
        int[] none = { -2, -3, 2, 3, 63, 64, Integer.MIN_VALUE, Integer.MAX_VALUE };
        for (int k : none) {
            Check.due("steadies " + k, x.steadies(0, k), -1);
        }
        steadies(new ExitFalls(), 5, 0);
        steadies(Check.firm("common a 1; option o 1 at 1; class s 1 at 1 rank 0 sharing;", 3), 5, 0);
    }

    private static void prefsOfThoseThatDontTurnFirst() {
        ExitFalls x = Check.firm("class a 10 at 10 rank 0; class b 10 at 10 rank 1; common f 10;", 3);
        chosen(x, 0, 99, 9900, 0, 0);
        chosen(x, 0, 100, 10000, 0, 0);
        chosen(x, 0, 101, 10000, 100, 0);
        chosen(x, 0, 199, 10000, 9900, 0);
        chosen(x, 0, 200, 10000, 10000, 0);
        chosen(x, 0, 201, 10000, 10000, 100);
        chosen(x, 1, 99, 0, 9900, 0);
        chosen(x, 1, 100, 0, 10000, 0);
        chosen(x, 1, 101, 50, 10000, 50);
        chosen(x, 2, 99, 9900, 0, 0);
        chosen(x, 2, 100, 10000, 0, 0);
        chosen(x, 2, 101, 10000, 50, 50);
        chosen(x, 3, 0, 0, 0, 0);
        chosen(x, 3, 3, 100, 100, 100);
        // alike in RANK: as their PREFS are to all of the RANK that don't TURN
        ExitFalls y = Check.firm("class a 10 at 10 rank 2; class b 30 at 10 rank 2; class c 10 at 10 rank 2;", 3);
        chosen(y, 0, 50, 1000, 3000, 1000);
        chosen(y, 1, 40, 0, 3000, 1000);
        chosen(y, 2, 40, 2000, 0, 2000);
        chosen(y, 6, 40, 4000, 0, 0);
    }

    private static void thoseThatTurnHaveNoPref() {
        ExitFalls x = Check.firm("class a 10 at 10 rank 0 ratio 300; common f 10;", 2);
        chosen(x, 1, 1, 75, 25);
        chosen(x, 1, 400, 30000, 10000);
        ExitFalls capped = Check.firm("class a 10 at 10 rank 0 ratio 300 sharing cap 150; common f 10;", 2);
        chosen(capped, 1, 1, 75, 25);
        chosen(capped, 1, 400, 30000, 10000);
        // turned alone, by any RATIO it has all
        chosen(Check.firm("class a 1 at 1 rank 0 ratio 1;", 1), 1, 9999999, 999999900);
    }

    private static void withCapUpToTop() {
        ExitFalls x = Check.firm("class a 10 at 10 rank 0 sharing cap 200; common f 10;", 2);
        chosen(x, 0, 100, 10000, 0);
        chosen(x, 0, 101, 10050, 50);
        chosen(x, 0, 299, 19950, 9950);
        chosen(x, 0, 300, 20000, 10000);
        chosen(x, 0, 301, 20000, 10100);
        // unlike what falls by itself it does not turn above 400
        chosen(x, 0, 400, 20000, 20000);
        chosen(x, 0, 401, 20000, 20100);
        chosen(x, 0, 9999999, 20000, 999979900);
        chosen(x, 1, 400, 20000, 20000);
        chosen(x, 1, 401, 20050, 20050);
        steadies(x, 399, 0);
        steadies(x, 400, 0, 1);
        steadies(x, 401, 1);
    }

    private static void topThatIsPref() {
        int[] caps = { 0, 99, 100 };
        for (int cap : caps) {
            ExitFalls x = Check.firm("class a 10 at 10 rank 0 sharing cap " + cap + "; common f 10;", 2);
            chosen(x, 0, 100, 10000, 0);
            chosen(x, 0, 101, 10000, 100);
            chosen(x, 0, 500, 10000, 40000);
        }
        ExitFalls y = Check.firm("class a 10 at 10 rank 0 sharing cap 101; common f 10;", 2);
        chosen(y, 0, 101, 10050, 50);
        chosen(y, 0, 102, 10100, 100);
        chosen(y, 0, 103, 10100, 200);
    }

    private static void sharingWithoutCapHasNoBit() {
        ExitFalls x = Check.firm("class a 10 at 10 rank 0 sharing; class b 10 at 10 rank 0; common f 10;", 3);
        int[] sets = { 0, 1 };
        for (int set : sets) {
            chosen(x, set, 201, 10050, 10000, 50);
            chosen(x, set | 2, 103, 10100, 100, 100);
            Check.due("steady", x.steady(set, 201), 1);
            Check.due("steady", x.steady(set | 2, 201), 0);
        }
        steadies(x, 201, 0);
        steadies(x, 400, 0, 2);
        steadies(x, 403, 2);
    }

    private static void commonsAndOptionsHaveNoBit() {
        ExitFalls x = Check.firm("common f 10; option o 10 at 1; class a 10 at 10 rank 0;", 3);
        int[] others = { 0, 1, 2, 3, 8, 0x1000, Integer.MIN_VALUE, 0xfffffffb };
        for (int set : others) {
            chosen(x, set, 111, 1050, 50, 10000);
            chosen(x, set | 4, 23, 1100, 100, 1100);
            Check.due("steady", x.steady(set, 111), 1);
            Check.due("steady", x.steady(set | 4, 111), 0);
        }
        steadies(x, 111, 0);
    }

    private static void whatIsLeftNobodyHas() {
        ExitFalls x = Check.firm("class a 10 at 10 rank 0; class b 10 at 10 rank 0 sharing cap 200;", 2);
        chosen(x, 0, 200, 10000, 10000);
        chosen(x, 0, 201, 10000, 10100);
        chosen(x, 0, 299, 10000, 19900);
        chosen(x, 0, 300, 10000, 20000);
        chosen(x, 0, 301, 10000, 20000);
        chosen(x, 0, 9999999, 10000, 20000);
        chosen(x, 1, 301, 10100, 20000);
        chosen(x, 2, 301, 10000, 20100);
        ExitFalls one = Check.firm("class a 10 at 10 rank 0;", 1);
        chosen(one, 0, 99, 9900);
        chosen(one, 0, 100, 10000);
        chosen(one, 0, 101, 10000);
        chosen(one, 1, 101, 10100);
        steadies(one, 100, 0, 1);
        steadies(one, 101, 1);
        // nothing at all, when it is WAIVED and does not TURN
        one.waive(0, true);
        chosen(one, 0, 101, 0);
        chosen(one, 1, 101, 10100);
    }

    private static void optionsTakeWhatIsLeft() {
        ExitFalls x = Check.firm("class a 10 at 10 rank 0; option o 10 at 999;", 2);
        chosen(x, 0, 100, 10000, 0);
        chosen(x, 0, 101, 10000, 100);
        chosen(x, 0, 9999999, 10000, 999989900);
        chosen(x, 1, 9990, 999000, 0);
        chosen(x, 1, 9991, 999050, 50);
        chosen(x, 1, 9989, 998900, 0);
    }

    private static void asMuchIsNotMore() {
        ExitFalls x = pair();
        steadies(x, 0, 0, 1);
        steadies(x, 1, 0);
        steadies(x, 199, 0);
        steadies(x, 200, 0, 1);
        steadies(x, 201, 1);
        Check.due("not steady", x.steady(1, 199), 0);
        Check.due("not steady", x.steady(0, 201), 0);
        // PREF of a SHARE is a hundredth: by 199 units a LEVEL just below it, just so, just above
        steadies(Check.firm("class a 9999 at 1 rank 0 times 1; common f 9902;", 2), 199, 0);
        steadies(Check.firm("class a 9999 at 1 rank 0 times 1; common f 9901;", 2), 199, 0, 1);
        steadies(Check.firm("class a 9999 at 1 rank 0 times 1; common f 9900;", 2), 199, 1);
        // three sevenths of a hundredth are more
        ExitFalls near = Check.firm("class a 1 at 1 rank 0 times 1 ratio 400 sharing cap 2000; common f 3;", 2);
        Check.fraction("unturned", near.chosen(0, 0, 1, 0), near.chosen(0, 0, 1, 1), 403, 7);
        Check.fraction("turned", near.chosen(1, 0, 1, 0), near.chosen(1, 0, 1, 1), 400, 7);
        steadies(near, 1, 0);
    }

    private static void oneThatIsWaivedChooses() {
        ExitFalls x = pair();
        Check.due("waive", x.waive(0, true), true);
        chosen(x, 0, 10, 0, 1000);
        chosen(x, 1, 10, 500, 500);
        steadies(x, 0, 0, 1);
        steadies(x, 1, 1);
        ExitFalls capped = Check.firm("class a 10 at 10 rank 0 sharing cap 200; common f 10;", 2);
        capped.waive(0, true);
        chosen(capped, 0, 10, 500, 500);
        chosen(capped, 0, 400, 20000, 20000);
        chosen(capped, 0, 401, 20000, 20100);
        steadies(capped, 400, 0, 1);
        steadies(capped, 401, 1);
    }

    private static void allSetsOfSix() {
        StringBuilder text = new StringBuilder();
        for (char c = 'a'; c < 'g'; c++) {
            text.append("class ").append(c).append(" 1 at 1 rank 0;");
        }
        ExitFalls x = Check.firm(text.toString(), 6);
        Check.due("all are steady by nothing", x.steadies(0, -1), 64);
        for (int k = 0; k < 64; k++) {
            Check.due("the k-th", x.steadies(0, k), k);
        }
        Check.due("no more", x.steadies(0, 64), -1);
        Check.due("none before", x.steadies(0, -2), -1);
        Check.due("all are steady by all PREFS too", x.steadies(6, -1), 64);
        steadies(x, 5, 0);
        steadies(x, 7, 63);
    }

    /** Bits by HOLDERS, between which others stand. */
    private static void theKthByNumbers() {
        ExitFalls x = Check.firm("common f 1; class a 1 at 1 rank 0; option o 1 at 1; class b 1 at 1 rank 0;"
            + "class s 1 at 1 rank 0 sharing; class c 1 at 1 rank 0 sharing cap 200; common g 1; class d 1 at 1 rank 0;", 8);
        int[] bits = { 1, 3, 5, 7 };
        Check.due("by nothing", x.steadies(0, -1), 16);
        for (int k = 0; k < 16; k++) {
            int set = 0;
            for (int i = 0; i < 4; i++) {
                set |= (k >> i & 1) << bits[i];
            }
            Check.due("the k-th", x.steadies(0, k), set);
        }
        Check.due("no more", x.steadies(0, 16), -1);
        steadies(x, 9999999, 2 | 8 | 32 | 128);
    }

    private static void withCarve() {
        ExitFalls x = Check.firm("class a 10 at 10 rank 0; common f 10; carve 50;", 2);
        // of 399 and 400 units 200 fall
        steadies(x, 398, 0);
        steadies(x, 399, 0, 1);
        steadies(x, 400, 0, 1);
        steadies(x, 401, 1);
        chosen(x, 1, 399, 10000, 10000);
        chosen(x, 1, 401, 10050, 10050);
    }

    private static void refusedCallsChangeNothing() {
        Made rich = Made.of("class a 10 at 10 rank 0; class b 5 at 3 rank 1 sharing cap 200; common f 10;")
            .then(x -> x.close(500, 10)).then(x -> x.guess(100, 2)).then(x -> x.waive(1, true) ? 1 : 0).fed("carve 4;");
        Later.refused("chosen", rich, x -> x.chosen(3, 0, -1, 0), -2);
        Later.refused("chosen of none", rich, x -> x.chosen(3, 3, 10, 0), -2);
        Later.refused("steady", rich, x -> x.steady(3, 10000000), -2);
        Later.refused("steadies", rich, x -> x.steadies(10000000, 0), -2);
        Later.refused("steadies of none such", rich, x -> x.steadies(10, 64), -1);
        Later.refused("steadies that are", rich, x -> x.steadies(0, -1), 4);
    }
}
