/** The edges of promises 20 and 21: BREAKS, TRANCHES and PARTS. */
public final class BreakEdgesTest {
    private static final String THREE = "common f 100; class s 50 at 2 rank 0; option o 50 at 3;";

    public static void main(String[] args) {
        breaksItsArguments();
        partItsArguments();
        withoutHolders();
        ranksThatHaveSome();
        prefThatIsNotZero();
        topIsComeToTwice();
        topThatIsPref();
        aboveZeroAlone();
        unlikeOnes();
        breaksThatAreFractions();
        breaksBeyondAllAmounts();
        theFewestAndTheMost();
        partsAreOneTogether();
        carveIsNoMatter();
        actsMoveThem();
        Check.finish();
    }

    private static void breaks(ExitFalls x, long... want) {
        Check.due("breaks", x.breaks(-1, 0), want.length);
        for (int k = 0; k < want.length; k++) {
            Check.fraction("break " + k, x.breaks(k, 0), x.breaks(k, 1), want[k], 1);
        }
        Check.due("no more breaks", x.breaks(want.length, 0), -2);
    }

    private static void part(ExitFalls x, int h, int k, long above, long below) {
        Check.fraction("part " + h + " " + k, x.part(h, k, 0), x.part(h, k, 1), above, below);
    }

    private static void breaksItsArguments() {
        ExitFalls x = Check.firm(THREE, 3);
        breaks(x, 10000, 30000, 45000);
        int[] whats = { -2, -1, 0, 1, 2, 3, Integer.MIN_VALUE, Integer.MAX_VALUE };
        for (int what : whats) {
            Check.due("how many, what no matter", x.breaks(-1, what), 3);
            boolean is = what == 0 || what == 1;
            Check.due("the first, " + what, x.breaks(0, what), is ? what == 0 ? 10000 : 1 : -2);
            Check.due("the last, " + what, x.breaks(2, what), is ? what == 0 ? 45000 : 1 : -2);
        }
        int[] none = { -2, -3, 3, 4, 21, 30, 31, Integer.MIN_VALUE, Integer.MAX_VALUE };
        for (int k : none) {
            Check.due("break " + k, x.breaks(k, 0), -2);
            Check.due("break " + k, x.breaks(k, 1), -2);
        }
    }

    private static void partItsArguments() {
        ExitFalls x = Check.firm(THREE, 3);
        part(x, 1, 0, 1, 1);
        part(x, 0, 3, 1, 2);
        part(x, 2, 3, 1, 4);
        int[] none = { -1, -2, 4, 5, 31, Integer.MIN_VALUE, Integer.MAX_VALUE };
        for (int k : none) {
            Check.due("tranche " + k, x.part(0, k, 0), -2);
            Check.due("tranche " + k, x.part(0, k, 1), -2);
        }
        int[] holders = { -1, 3, 4, 12, 32, Integer.MIN_VALUE, Integer.MAX_VALUE };
        for (int h : holders) {
            Check.due("part of " + h, x.part(h, 0, 0), -2);
            Check.due("part of " + h, x.part(h, 3, 1), -2);
        }
        int[] whats = { -1, 2, 3, Integer.MIN_VALUE, Integer.MAX_VALUE };
        for (int what : whats) {
            Check.due("part " + what, x.part(0, 0, what), -2);
        }
    }

    private static void withoutHolders() {
        ExitFalls x = new ExitFalls();
        breaks(x);
        Check.due("part", x.part(0, 0, 0), -2);
        Check.due("part", x.part(-1, 0, 0), -2);
        breaks(Check.firm("carve 5;", 0));
    }

    private static void ranksThatHaveSome() {
        ExitFalls x = Check.firm("class a 1 at 1 rank 0 times 1 sharing; class b 1 at 1 rank 2 times 2 sharing;"
            + "class c 1 at 1 rank 2 times 3 sharing; class d 1 at 1 rank 5 times 4 sharing;", 4);
        breaks(x, 1, 6, 10);
        part(x, 0, 0, 1, 1);
        part(x, 1, 0, 0, 1);
        part(x, 1, 1, 2, 5);
        part(x, 2, 1, 3, 5);
        part(x, 0, 1, 0, 1);
        part(x, 3, 2, 1, 1);
        part(x, 3, 3, 1, 4);
        Check.due("waive", x.waive(1, true) && x.waive(2, true), true);
        breaks(x, 1, 5);
        Check.due("waive", x.waive(0, true) && x.waive(3, true), true);
        breaks(x);
        part(x, 0, 0, 1, 4);
    }

    private static void prefThatIsNotZero() {
        breaks(Check.firm("class a 10 at 1 rank 0 times 0; common f 10;", 2));
        breaks(Check.firm("class a 10 at 1 rank 0 times 1; common f 10;", 2), 10, 20);
        breaks(Check.firm("class a 10 at 1 rank 0 times 0; common f 10; option o 1 at 1;", 3), 2000);
        ExitFalls x = Check.firm("class a 10 at 1 rank 0 times 0; common f 10;", 2);
        part(x, 0, 0, 1, 2);
        part(x, 1, 0, 1, 2);
        // one that is SHARING without CAP turns at no LEVEL
        breaks(Check.firm("class a 10 at 1 rank 0 sharing; common f 10;", 2), 1000);
    }

    private static void topIsComeToTwice() {
        ExitFalls x = Check.firm("class a 10 at 10 rank 0 sharing cap 200; common f 10;", 2);
        breaks(x, 10000, 30000, 40000);
        part(x, 0, 0, 1, 1);
        part(x, 0, 1, 1, 2);
        part(x, 0, 2, 0, 1);
        part(x, 0, 3, 1, 2);
        part(x, 1, 0, 0, 1);
        part(x, 1, 1, 1, 2);
        part(x, 1, 2, 1, 1);
        part(x, 1, 3, 1, 2);
        // alone it has just TOP at both, which is one BREAK
        ExitFalls alone = Check.firm("class a 10 at 10 rank 0 sharing cap 200;", 1);
        breaks(alone, 10000, 20000);
        part(alone, 0, 0, 1, 1);
        part(alone, 0, 1, 1, 1);
        part(alone, 0, 2, 1, 1);
        // without PREF v times RATIO by 100 comes to TOP at once
        ExitFalls free = Check.firm("class a 10 at 10 rank 0 times 0 sharing cap 200; common f 10;", 2);
        breaks(free, 40000);
        part(free, 0, 0, 1, 2);
        part(free, 0, 1, 1, 2);
    }

    private static void topThatIsPref() {
        int[] noMore = { 0, 99, 100 };
        for (int cap : noMore) {
            breaks(Check.firm("class a 10 at 10 rank 0 sharing cap " + cap + "; common f 10;", 2), 10000, 20000);
        }
        breaks(Check.firm("class a 10 at 10 rank 0 sharing cap 101; common f 10;", 2), 10000, 10200, 20200);
        breaks(Check.firm("class a 10 at 10 rank 0 times 0 sharing cap 0; common f 10;", 2));
        breaks(Check.firm("class a 10 at 10 rank 0 times 0 sharing cap 1; common f 10;", 2), 200);
        // another one's PREFS are paid first: TOP at the LEVEL 0 is where all PREFS are paid
        breaks(Check.firm("class a 10 at 10 rank 0 sharing cap 100; class b 10 at 10 rank 1 sharing;", 2),
            10000, 20000, 30000);
    }

    private static void aboveZeroAlone() {
        breaks(Check.firm("option o 1 at 1;", 1));
        breaks(Check.firm("option o 1 at 1; option p 1 at 1;", 2));
        ExitFalls x = Check.firm("option o 1 at 1; option p 1 at 2;", 2);
        breaks(x, 100);
        part(x, 0, 0, 1, 1);
        part(x, 1, 0, 0, 1);
        part(x, 1, 1, 1, 2);
        breaks(Check.firm("common a 1;", 1));
        part(Check.firm("common a 1;", 1), 0, 0, 1, 1);
        part(Check.firm("common a 1; common b 2;", 2), 1, 0, 2, 3);
    }

    private static void unlikeOnes() {
        breaks(Check.firm("common f 10; option o 1 at 7; option p 5 at 7; option q 9 at 8;", 4), 7000, 8600);
        // a STRIKE just where a class turns
        ExitFalls x = Check.firm("class a 10 at 10 rank 0; option o 10 at 10; common f 10;", 3);
        breaks(x, 10000, 20000);
        part(x, 0, 2, 1, 3);
        part(x, 1, 2, 1, 3);
        part(x, 1, 1, 0, 1);
        // LEVELS that are unlike, at which all have the same together
        breaks(Check.firm("class a 10 at 10 rank 0; class b 10 at 20 rank 0;", 2), 30000, 40000);
        breaks(Check.firm("class a 10 at 10 rank 0;", 1), 10000);
    }

    private static void breaksThatAreFractions() {
        ExitFalls x = Check.firm("class a 1 at 1 rank 0 ratio 300; common f 1;", 2);
        Check.due("breaks", x.breaks(-1, 0), 2);
        Check.fraction("pref", x.breaks(0, 0), x.breaks(0, 1), 100, 1);
        Check.fraction("turned at a third of 100", x.breaks(1, 0), x.breaks(1, 1), 400, 3);
        part(x, 0, 2, 3, 4);
        part(x, 1, 2, 1, 4);
        part(x, 1, 1, 1, 1);
        // 133 hundredths and a third is neither reached by one unit nor passed by less than two
        Check.due("by 1", x.state(0, 1), 1);
        Check.due("by 2", x.state(0, 2), 4);
        ExitFalls y = Check.firm("class a 1 at 1 rank 0 ratio 399 sharing cap 101; common f 1;", 2);
        Check.fraction("top with pref", y.breaks(1, 0), y.breaks(1, 1), 101 * 399 + 100, 399);
        Check.fraction("top alone", y.breaks(2, 0), y.breaks(2, 1), 101 * 399 + 10100, 399);
        part(y, 0, 2, 0, 1);
        part(y, 1, 2, 1, 1);
        part(y, 0, 3, 399, 499);
        // behind a BREAK that is a fraction another one comes soon
        ExitFalls z = Check.firm("class a 1 at 1 rank 0 ratio 300; common f 1; option o 1 at 2;", 3);
        Check.fraction("the strike", z.breaks(2, 0), z.breaks(2, 1), 800, 1);
        part(z, 2, 2, 0, 1);
        part(z, 0, 2, 3, 4);
        part(z, 2, 3, 1, 5);
    }

    private static void breaksBeyondAllAmounts() {
        String most = " 9999 at 99 rank 5 times 400 ratio 1 sharing cap 2000 yearly 30 20;";
        ExitFalls x = Check.firm("class a" + most + "class b" + most + "class c" + most + "class d" + most
            + "class e" + most + "class f" + most + "common g 9999; common h 9999; common i 9999;"
            + "option j 9999 at 999; option k 9999 at 999; option l 9999 at 999;", 12);
        long prefs = 6 * 9999L * 99000;
        long strike = prefs + 9999L * (6 * 999 + 3 * 99900);
        long lid = 6 * 9999L * 198000;
        long top = lid + 9999L * (6 * 9900000L - 3 * 99900);
        breaks(x, prefs, strike, top, top + 6 * 9999L * 9900000L);
        part(x, 0, 0, 1, 6);
        part(x, 0, 1, 1, 306);
        part(x, 6, 1, 50, 153);
        part(x, 0, 2, 1, 606);
        part(x, 0, 3, 0, 1);
        part(x, 6, 3, 1, 6);
        part(x, 11, 4, 50, 303);
    }

    private static void theFewestAndTheMost() {
        breaks(Check.firm("common f 1;", 1));
        StringBuilder text = new StringBuilder("common f 100;");
        for (int i = 0; i < 6; i++) {
            text.append("class c").append((char) ('a' + i)).append(" 1 at ").append(20 - i).append(" rank ").append(i)
                .append(" sharing cap ").append(120 + 11 * i).append(";");
        }
        ExitFalls x = Check.firm(text + "option o 1 at 997;option p 1 at 998;option q 1 at 999;", 10);
        Check.due("six ranks, six tops twice, three strikes", x.breaks(-1, 0), 21);
        Check.due("the last one", x.breaks(20, 1), 1);
        Check.due("no more", x.breaks(21, 1), -2);
        Check.due("the last tranche", x.part(0, 21, 0), 100);
        Check.due("no more", x.part(0, 22, 0), -2);
        for (int k = 1; k < 21; k++) {
            Rat before = Rat.of(x.breaks(k - 1, 0), x.breaks(k - 1, 1));
            Check.due("rising", before.compareTo(Rat.of(x.breaks(k, 0), x.breaks(k, 1))) < 0, true);
        }
    }

    private static void partsAreOneTogether() {
        String[] texts = { THREE, "option o 1 at 1; option p 1 at 2;", "class a 1 at 1 rank 0 ratio 300; common f 1;",
            "class a 10 at 10 rank 0; class b 10 at 20 rank 0;", "class a 7 at 3 rank 4 ratio 31 sharing cap 170;"
            + "class b 5 at 2 rank 1 ratio 250; class c 3 at 9 rank 4 sharing; common f 11; option o 13 at 6;" };
        for (String text : texts) {
            int holders = text.split(";").length;
            ExitFalls x = Check.firm(text, holders);
            for (int k = 0; k <= x.breaks(-1, 0); k++) {
                Rat sum = Rat.ZERO;
                for (int h = 0; h < holders; h++) {
                    sum = sum.plus(Rat.of(x.part(h, k, 0), x.part(h, k, 1)));
                }
                Check.due("parts of tranche " + k + " of " + text, sum.equals(Rat.of(1)), true);
            }
        }
    }

    private static void carveIsNoMatter() {
        breaks(Check.firm(THREE + "carve 50;", 3), 10000, 30000, 45000);
    }

    private static void actsMoveThem() {
        ExitFalls x = Check.firm("class a 10 at 10 rank 0 sharing; class b 10 at 10 rank 0 sharing;", 2);
        breaks(x, 20000);
        Check.due("rank", x.rank(0, 1), 0);
        breaks(x, 10000, 20000);
        part(x, 0, 0, 0, 1);
        part(x, 1, 0, 1, 1);
        Check.due("grant", x.grant(1, 10), 20);
        breaks(x, 20000, 30000);
        Check.due("undo", x.undo() && x.undo(), true);
        breaks(x, 20000);
    }
}
