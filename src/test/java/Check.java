import java.nio.charset.StandardCharsets;

/** What all tests of the project need: answers that are due, and texts to be fed. */
final class Check {
    private static int wrong;
    private static int calls;

    private Check() {
    }

    static void due(String call, long got, long want) {
        calls++;
        if (got != want) {
            wrong++;
            if (wrong <= 60) {
                System.out.println(call + " answered " + got + ", due is " + want);
            }
        }
    }

    static void due(String call, boolean got, boolean want) {
        due(call, got ? 1 : 0, want ? 1 : 0);
    }

    static void feed(ExitFalls x, byte[] bytes) {
        for (int at = 0; at < bytes.length; at += 20) {
            int[] five = new int[5];
            for (int i = 0; i < 20; i++) {
                int next = at + i < bytes.length ? bytes[at + i] & 255 : 32;
                five[i / 4] = five[i / 4] << 8 | next;
            }
            due("feed", x.feed(five[0], five[1], five[2], five[3], five[4]), at + 20);
        }
        due("end", x.end(bytes.length), bytes.length);
    }

    static int read(ExitFalls x, String text) {
        feed(x, text.getBytes(StandardCharsets.ISO_8859_1));
        return x.text();
    }

    static ExitFalls firm(String text, int holders) {
        ExitFalls x = new ExitFalls();
        due("text of " + text, read(x, text), holders);
        return x;
    }

    /** A TEXT with a FAULT. */
    static void fault(String text, int fault, int place) {
        ExitFalls x = new ExitFalls();
        due("text " + text, read(x, text), -1);
        due("fault of " + text, x.fault(0), fault);
        due("place in " + text, x.fault(1), place);
    }

    static void fraction(String call, long above, long below, long wantAbove, long wantBelow) {
        due(call + " above", above, wantAbove);
        due(call + " below", below, wantBelow);
    }

    static void finish() {
        System.out.println(calls + " answers looked at, " + wrong + " wrong");
        if (wrong != 0) {
            System.exit(1);
        }
    }
}
