import java.nio.charset.StandardCharsets;
import java.util.Random;

/** Texts by chance with something amiss: FAULTS and their places (promises 4, 5) against a table of the grammar. */
public final class FaultTest {
    private static final String[] BITS = { " ", "\n", ";", "common", "option", "class", "at", "rank", "times",
        "ratio", "sharing", "cap", "yearly", "carve", "0", "1", "50", "51", "99", "100", "400", "401", "999",
        "1000", "2000", "2001", "9999", "10000", "00001", "0009", "x", "a", "b", "abcdefg", "abcdefgh",
        "common a1;", "option z 1 at 999;", "option b 1 at 1;", "class c 1 at 1 rank 1;", "carve 50;",
        "common at 1;", "1a", "A", "\t", "\r", "-", "\u00e9", "\u0000", "commons", "shar", "21", "30", "31", "5", "6" };

    public static void main(String[] args) {
        int rounds = args.length > 0 ? Integer.parseInt(args[0]) : 60000;
        Random chance = new Random(17);
        int[] seen = new int[6];
        ExitFalls x = new ExitFalls();
        for (int round = 0; round < rounds; round++) {
            if (round % 10 == 0) {
                x = new ExitFalls();
            }
            Texts texts = new Texts(chance, chance.nextInt(3));
            String text = texts.text(chance.nextInt(5), chance.nextInt(4), chance.nextInt(6));
            text = spread(chance, text);
            for (int n = chance.nextInt(3); n > 0; n--) {
                text = spoiled(chance, text);
            }
            seen[look(x, text)]++;
        }
        for (int fault = 0; fault < 6; fault++) {
            Check.due("some texts with fault " + fault, seen[fault] > rounds / 2000, true);
        }
        Check.finish();
    }

    private static int look(ExitFalls x, String text) {
        byte[] bytes = text.getBytes(StandardCharsets.ISO_8859_1);
        if (bytes.length > 700) {
            return 0;
        }
        int before = x.about(0);
        int carve = x.about(1);
        TextModel want = new TextModel(bytes);
        Check.feed(x, bytes);
        Check.due("text " + text, x.text(), want.fault == 0 ? want.model.holders.size() : -1);
        Check.due("fault of " + text, x.fault(0), want.fault);
        Check.due("place in " + text, x.fault(1), want.place);
        Check.due("tape is empty", x.about(3), 0);
        Check.due("holders of " + text, x.about(0), want.fault == 0 ? want.model.holders.size() : before);
        Check.due("carve of " + text, x.about(1), want.fault == 0 ? want.model.carve : carve);
        if (want.fault == 0) {
            for (int h = 0; h < want.model.holders.size(); h++) {
                Check.due("shares in " + text, x.holder(h, 1), want.model.holders.get(h).shares);
            }
        }
        return want.fault;
    }

    private static String spread(Random chance, String text) {
        StringBuilder wide = new StringBuilder();
        for (char c : text.toCharArray()) {
            if (c == ' ' || c == ';') {
                wide.append(" \n".repeat(chance.nextInt(20) == 0 ? 1 : 0));
            }
            wide.append(c);
        }
        return wide.toString();
    }

    private static String spoiled(Random chance, String text) {
        int at = chance.nextInt(text.length() + 1);
        int to = Math.min(text.length(), at + chance.nextInt(4));
        String bit = BITS[chance.nextInt(BITS.length)];
        switch (chance.nextInt(5)) {
            case 0: return text.substring(0, at);
            case 1: return text.substring(0, at) + text.substring(to);
            case 2: return text.substring(0, at) + bit + text.substring(to);
            case 3: return text + " " + bit;
            default: return text.replaceFirst("[0-9]+", bit);
        }
    }
}
