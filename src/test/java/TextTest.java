/** Promises 1 to 7: a new object, the TAPE, the TEXT, its FAULTS, and what is told of HOLDERS. */
public final class TextTest {
    public static void main(String[] args) {
        newObject();
        tape();
        textBecomes();
        faults();
        faultLeavesAll();
        holders();
        Check.finish();
    }

    private static void newObject() {
        ExitFalls x = new ExitFalls();
        for (int what = 0; what <= 5; what++) {
            Check.due("about " + what, x.about(what), 0);
        }
        Check.due("about -1", x.about(-1), -1);
        Check.due("about 6", x.about(6), -1);
        Check.due("sale", x.sale(0), -2);
        Check.due("fault 0", x.fault(0), 0);
        Check.due("fault 1", x.fault(1), -1);
        Check.due("fault 2", x.fault(2), -1);
        Check.due("fault -1", x.fault(-1), -1);
        Check.due("holder", x.holder(0, 0), -2);
        Check.due("undo", x.undo(), false);
        Check.due("NONE", ExitFalls.NONE, -1);
    }

    private static void tape() {
        ExitFalls x = new ExitFalls();
        Check.due("end beyond", x.end(1), -1);
        Check.due("end below 0", x.end(-1), -1);
        Check.due("end 0", x.end(0), 0);
        for (int i = 1; i <= 35; i++) {
            Check.due("feed", x.feed(0x20202020, 0x20202020, 0x20202020, 0x20202020, 0x20202020), 20 * i);
        }
        Check.due("feed too much", x.feed(1, 2, 3, 4, 5), -1);
        Check.due("bytes", x.about(3), 700);
        Check.due("end 681", x.end(681), 681);
        Check.due("feed too much still", x.feed(1, 2, 3, 4, 5), -1);
        Check.due("bytes stay", x.about(3), 681);
        Check.due("end beyond", x.end(682), -1);
        Check.due("end 680", x.end(680), 680);
        Check.due("feed", x.feed(0x636f6d6d, 0x6f6e2061, 0x20343b20, 0x20202020, 0x20202020), 700);
        Check.due("text at the tape's end", x.text(), 1);
        Check.due("tape is empty", x.about(3), 0);
        Check.due("shares", x.holder(0, 1), 4);
        Check.due("feed anew", x.feed(0, 0, 0, 0, 0x8081fffe), 20);
        Check.due("bytes of any kind", x.text(), -1);
        Check.due("are none", x.fault(0), 1);
        Check.due("at the first", x.fault(1), 0);
    }

    private static void textBecomes() {
        ExitFalls x = Check.firm("common a 5; class b 6 at 7 rank 3; carve 9;", 2);
        x.close(10, 10);
        x.guess(1, 1);
        x.waive(1, true);
        Check.due("acts", x.about(2), 3);
        Check.due("text", Check.read(x, "class c 1 at 1 rank 1;"), 1);
        Check.due("holders", x.about(0), 1);
        Check.due("carve", x.about(1), 0);
        Check.due("no acts", x.about(2), 0);
        Check.due("no guesses", x.about(4), 0);
        Check.due("none waived", x.about(5), 0);
        Check.due("no sale", x.sale(0), -2);
        Check.due("nothing to undo", x.undo(), false);
        Check.due("pref", x.holder(0, 10), 100);
        Check.due("empty text", x.text(), 0);
        Check.due("no holders", x.about(0), 0);
        Check.due("without a fault", x.fault(0), 0);
        Check.due("without its place", x.fault(1), -1);
    }

    private static void good(String text, int holders) {
        Check.firm(text, holders);
    }

    private static void faults() {
        good(" \n common\na1;option\n\nb2 at3;class c4 at5 rank0 times0 ratio1 sharing cap0 yearly0 0;carve0;", 3);
        good("common abcdefg 9999;", 1);
        good("common x 0001;", 1);
        good("carve 50;carve".substring(0, 9), 0);
        Check.fault("common abcdefgh 1;", 1, 7);
        Check.fault("common x 00001;", 1, 9);
        Check.fault("common x 1a;", 1, 9);
        Check.fault("common x 1A;", 1, 10);
        Check.fault("common x 1;\t", 1, 11);
        Check.fault("common x\r1;", 1, 8);
        Check.fault("common X 1;", 1, 7);
        Check.fault("commons x 1;", 2, 0);
        Check.fault("commonss x 1;", 1, 0);
        Check.fault("common common 1;", 2, 7);
        Check.fault("common cap 1;", 2, 7);
        Check.fault("common 5 1;", 2, 7);
        Check.fault("common x y;", 2, 9);
        Check.fault("common x 1", 2, 10);
        Check.fault("common x 1  \n", 2, 13);
        Check.fault("common x 1 1;", 2, 11);
        Check.fault("common x 0;", 4, 9);
        Check.fault("option x 1 at 0;", 4, 14);
        Check.fault("option x 1 at 1000;", 4, 14);
        Check.fault("option x 1;", 2, 10);
        Check.fault("class x 1 at 100 rank 0;", 4, 13);
        Check.fault("class x 1 at 0 rank 0;", 4, 13);
        Check.fault("class x 1 at 1;", 2, 14);
        Check.fault("class x 1 at 1 rank 6;", 4, 20);
        Check.fault("class x 1 at 1 rank 5 times 401;", 4, 28);
        Check.fault("class x 1 at 1 rank 5 ratio 0;", 4, 28);
        Check.fault("class x 1 at 1 rank 5 ratio 401;", 4, 28);
        Check.fault("class x 1 at 1 rank 5 ratio 400 times 1;", 2, 32);
        Check.fault("class x 1 at 1 rank 5 cap 5;", 2, 22);
        Check.fault("class x 1 at 1 rank 5 sharing cap 2001;", 4, 34);
        Check.fault("class x 1 at 1 rank 5 sharing sharing;", 2, 30);
        Check.fault("class x 1 at 1 rank 5 yearly 31 0;", 4, 29);
        Check.fault("class x 1 at 1 rank 5 yearly 30 21;", 4, 32);
        Check.fault("class x 1 at 1 rank 5 yearly 30;", 2, 31);
        Check.fault("class x 1 at 1 rank 5 yearly 30 20 sharing;", 2, 35);
        Check.fault("carve 51;", 4, 6);
        Check.fault("carve 5; carve 5;", 2, 9);
        Check.fault("common x 1; option x 1 at 1;", 3, 19);
        Check.fault("common x 1; class x 0 at 1 rank 1;", 3, 18);
        Check.fault("common a1;common b1;common c1;common common", 5, 30);
        Check.fault("option a1 at1;option b1 at1;option c1 at1;option d1 at1;", 5, 42);
        String six = "class a1 at1 rank0;class b1 at1 rank0;class c1 at1 rank0;"
            + "class d1 at1 rank0;class e1 at1 rank0;class f1 at1 rank0;";
        good(six, 6);
        Check.fault(six + "class f1 at1 rank0;", 5, six.length());
        String eleven = six + "common g1;common h1;common i1;option j1 at1;option k1 at1;";
        good(eleven + "option l1 at1;", 12);
        Check.fault(eleven + "option k1 at1;", 3, eleven.length() + 7);
        Check.fault(eleven + "option a1 at1;", 3, eleven.length() + 7);
    }

    private static void faultLeavesAll() {
        ExitFalls x = Check.firm("common a 5; class b 6 at 7 rank 3 sharing cap 9; carve 9;", 2);
        x.close(10, 10);
        x.guess(1, 1);
        x.waive(1, true);
        Check.due("bad text", Check.read(x, "class c 1 at 1 rank 1; carve 3; class"), -1);
        Check.due("tape is empty", x.about(3), 0);
        Check.due("holders", x.about(0), 2);
        Check.due("carve", x.about(1), 9);
        Check.due("acts", x.about(2), 3);
        Check.due("guesses", x.about(4), 1);
        Check.due("waived", x.about(5), 2);
        Check.due("sale", x.sale(0), 10);
        Check.due("rank", x.holder(1, 3), 3);
        Check.due("cap", x.holder(1, 7), 9);
        Check.due("fault", x.fault(0), 2);
        Check.due("undo", x.undo(), true);
        Check.due("fault stays", x.fault(1), 37);
    }

    private static void holders() {
        ExitFalls x = Check.firm("option o 11 at 999; class c 12 at 98 rank 4 times 250 ratio 130 sharing cap 777"
            + " yearly 8 5; common k 13; class d 14 at 1 rank 5;", 4);
        int[][] want = { { 1, 11, 999, -2 }, { 2, 12, 98, 4, 250, 130, 1, 777, 8, 5, 98 * 290, -2 },
            { 0, 13, -2, -2 }, { 2, 14, 1, 5, 100, 100, 0, -1, 0, 0, 100, -2 } };
        for (int h = 0; h < 4; h++) {
            Check.due("holder -1", x.holder(h, -1), -2);
            for (int what = 0; what < want[h].length; what++) {
                Check.due("holder " + h + " " + what, x.holder(h, what), want[h][what]);
            }
        }
        Check.due("no holder 4", x.holder(4, 0), -2);
        Check.due("no holder -1", x.holder(-1, 0), -2);
        x.waive(1, true);
        Check.due("waived pref", x.holder(1, 10), 0);
        Check.due("times stay", x.holder(1, 4), 250);
    }
}
