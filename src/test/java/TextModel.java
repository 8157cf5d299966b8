import java.util.HashMap;
import java.util.HashSet;
import java.util.Map;
import java.util.Set;

/** The grammar of the TEXT as a table of places and what can stand there. */
final class TextModel {
    private static final Set<String> KEPT = Set.of("common", "option", "class", "at", "rank", "times",
        "ratio", "sharing", "cap", "yearly", "carve");
    private static final String[] TABLE = {
        "L common C1", "L option O1", "L class K1", "L carve V1",
        "C1 NAME C2", "C2 1..9999 S", "S ; L",
        "O1 NAME O2", "O2 1..9999 O3", "O3 at O4", "O4 1..999 S",
        "K1 NAME K2", "K2 1..9999 K3", "K3 at K4", "K4 1..99 K5", "K5 rank K6", "K6 0..5 K7",
        "K7 times K8", "K7 ratio KA", "K7 sharing KC", "K7 yearly KF", "K7 ; L",
        "K8 0..400 K9", "K9 ratio KA", "K9 sharing KC", "K9 yearly KF", "K9 ; L",
        "KA 1..400 KB", "KB sharing KC", "KB yearly KF", "KB ; L",
        "KC cap KD", "KC yearly KF", "KC ; L", "KD 0..2000 KE", "KE yearly KF", "KE ; L",
        "KF 0..30 KG", "KG 0..20 S", "V1 0..50 S" };
    private static final Map<String, Map<String, String>> GRAMMAR = new HashMap<>();

    static {
        for (String row : TABLE) {
            String[] parts = row.split(" ");
            GRAMMAR.computeIfAbsent(parts[0], k -> new HashMap<>()).put(parts[1], parts[2]);
        }
    }

    int fault;
    int place = -1;
    final Model model = new Model();

    private final Set<String> names = new HashSet<>();
    private final Map<String, Integer> counts = new HashMap<>();

    TextModel(byte[] bytes) {
        String text = new String(bytes, java.nio.charset.StandardCharsets.ISO_8859_1);
        String state = "L";
        int at = 0;
        while (true) {
            while (at < text.length() && (text.charAt(at) == ' ' || text.charAt(at) == '\n')) {
                at++;
            }
            if (at == text.length()) {
                if (!state.equals("L")) {
                    refuse(2, at);
                }
                return;
            }
            String token = token(text, at);
            if (token == null) {
                refuse(1, at);
                return;
            }
            state = step(state, token, at);
            if (state == null) {
                return;
            }
            at += token.length();
        }
    }

    private void refuse(int why, int where) {
        fault = why;
        place = where;
    }

    private static String token(String text, int at) {
        java.util.regex.Matcher word = java.util.regex.Pattern.compile("[a-z]+|[0-9]+[a-z]?|;").matcher(text);
        word.region(at, text.length());
        if (!word.lookingAt()) {
            return null;
        }
        return word.group().matches("[a-z]{1,7}|[0-9]{1,4}|;") ? word.group() : null;
    }

    private String step(String state, String token, int at) {
        Map<String, String> next = GRAMMAR.get(state);
        if (state.equals("L") && token.equals("carve") && counts.containsKey("carve")) {
            refuse(2, at);
            return null;
        }
        if (next.containsKey(token)) {
            if (state.equals("L") && counts.merge(token, 1, Integer::sum) > (token.equals("class") ? 6 : 3)) {
                refuse(5, at);
                return null;
            }
            note(state, token);
            return next.get(token);
        }
        for (String what : next.keySet()) {
            if (what.equals("NAME") && token.matches("[a-z]+") && !KEPT.contains(token)) {
                if (!names.add(token)) {
                    refuse(3, at);
                    return null;
                }
                return next.get(what);
            }
            if (what.contains("..") && token.matches("[0-9]+")) {
                int least = Integer.parseInt(what.split("\\.\\.")[0]);
                int most = Integer.parseInt(what.split("\\.\\.")[1]);
                int number = Integer.parseInt(token);
                if (number < least || number > most) {
                    refuse(4, at);
                    return null;
                }
                number(state, number);
                return next.get(what);
            }
        }
        refuse(2, at);
        return null;
    }

    private void note(String state, String token) {
        if (state.equals("L") && !token.equals("carve")) {
            Model.Holder holder = new Model.Holder();
            holder.kind = token.equals("common") ? 0 : token.equals("option") ? 1 : 2;
            model.holders.add(holder);
        }
        if (token.equals("sharing")) {
            last().sharing = true;
        }
    }

    private Model.Holder last() {
        return model.holders.get(model.holders.size() - 1);
    }

    private void number(String state, int number) {
        switch (state) {
            case "C2", "O2", "K2" -> last().shares = number;
            case "O4", "K4" -> last().price = number;
            case "K6" -> last().rank = number;
            case "K8" -> last().times = number;
            case "KA" -> last().ratio = number;
            case "KD" -> last().cap = number;
            case "KF" -> last().rate = number;
            case "KG" -> last().years = number;
            default -> model.carve = number;
        }
    }
}
