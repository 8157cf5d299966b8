/** Promises 22 to 24, by hand. */
public final class ChoicesTest {
    public static void main(String[] args) {
        twoClasses();
        bitsThatDontCount();
        ranksOfThoseThatDontTurn();
        waived();
        wrong();
        Check.finish();
    }

    private static void chosen(ExitFalls x, int set, int amount, long... want) {
        for (int h = 0; h < want.length; h++) {
            Check.fraction("chosen " + set + " " + h + " by " + amount,
                x.chosen(set, h, amount, 0), x.chosen(set, h, amount, 1), want[h], 1);
        }
    }

    private static void twoClasses() {
        ExitFalls x = Check.firm("class a 10 at 10 rank 0; class b 10 at 10 rank 1 sharing cap 200;", 2);
        // nobody has what is left above 100 and 200 units
        chosen(x, 0, 500, 10000, 20000);
        chosen(x, 0, 300, 10000, 20000);
        chosen(x, 0, 250, 10000, 15000);
        chosen(x, 0, 150, 10000, 5000);
        chosen(x, 1, 500, 30000, 20000);
        chosen(x, 2, 500, 10000, 40000);
        chosen(x, 3, 500, 25000, 25000);
        for (int set = 0; set < 4; set++) {
            Check.due("steady " + set, x.steady(set, 500), set == 3 ? 1 : 0);
        }
        Check.due("steadies", x.steadies(500, -1), 1);
        Check.due("steadies 0", x.steadies(500, 0), 3);
        Check.due("steadies 1", x.steadies(500, 1), -1);
        Check.due("steadies -2", x.steadies(500, -2), -1);
        // by nothing all choices are alike
        Check.due("steadies by 0", x.steadies(0, -1), 4);
        for (int k = 0; k < 4; k++) {
            Check.due("steadies by 0", x.steadies(0, k), k);
        }
    }

    private static void bitsThatDontCount() {
        ExitFalls x = Check.firm("common f 10; option o 10 at 1; class s 10 at 10 rank 0 sharing;"
            + "class t 10 at 10 rank 0 ratio 200;", 4);
        Check.due("steadies", x.steadies(1000, -1), 1);
        Check.due("steadies by number", x.steadies(1000, 0), 8);
        for (int set = 0; set < 8; set++) {
            // s 100 units and v, f v, o v less 1, t 2 v
            chosen(x, 8 | set | 0x7ffffff0, 610, 10400, 9400, 20400, 20800);
            Check.due("steady", x.steady(8 | set | 0x80000000, 1000), 1);
            Check.due("steady", x.steady(set, 1000), 0);
        }
        chosen(x, 7, 160, 0, 0, 8000, 8000);
        chosen(x, 8, 160, 1400, 400, 11400, 2800);
    }

    private static void ranksOfThoseThatDontTurn() {
        ExitFalls x = Check.firm("class a 10 at 10 rank 0; class b 10 at 10 rank 1; class c 10 at 10 rank 1 times 200;"
            + "common f 10;", 4);
        chosen(x, 0, 250, 10000, 5000, 10000, 0);
        Check.fraction("a third of what there is", x.chosen(1, 1, 250, 0), x.chosen(1, 1, 250, 1), 25000, 3);
        Check.fraction("two thirds", x.chosen(1, 2, 250, 0), x.chosen(1, 2, 250, 1), 50000, 3);
        Check.fraction("nothing by turning", x.chosen(1, 0, 250, 0), x.chosen(1, 0, 250, 1), 0, 1);
    }

    private static void waived() {
        ExitFalls x = Check.firm("class a 10 at 10 rank 0; common f 10;", 2);
        Check.due("waive", x.waive(0, true), true);
        chosen(x, 0, 100, 0, 10000);
        chosen(x, 1, 100, 5000, 5000);
        Check.due("one that is waived plays too", x.steady(0, 100), 0);
        Check.due("steadies", x.steadies(100, 0), 1);
    }

    private static void wrong() {
        ExitFalls x = Check.firm("class a 10 at 10 rank 0; common f 10;", 2);
        Check.due("chosen of none", x.chosen(0, 2, 1, 0), -2);
        Check.due("chosen of none", x.chosen(0, -1, 1, 0), -2);
        Check.due("chosen what", x.chosen(0, 0, 1, 2), -2);
        Check.due("chosen what", x.chosen(0, 0, 1, -1), -2);
        Check.due("chosen amount", x.chosen(0, 0, -1, 0), -2);
        Check.due("chosen amount", x.chosen(0, 0, 10000000, 0), -2);
        Check.due("steady amount", x.steady(0, 10000000), -2);
        Check.due("steadies amount", x.steadies(-1, -1), -2);
        Check.due("steadies amount", x.steadies(10000000, 0), -2);
        Check.due("steadies beyond", x.steadies(10, Integer.MAX_VALUE), -1);
        Check.due("steadies before", x.steadies(10, Integer.MIN_VALUE), -1);
    }
}
