import java.util.ArrayList;
import java.util.Collections;
import java.util.List;
import java.util.Random;
import java.util.regex.Matcher;
import java.util.regex.Pattern;

/** Texts by a seed: houses without a fault, as far as 700 bytes go, and houses spoilt by signs or by tokens. */
final class SeededTexts {
    private static final int MOST_BYTES = 700;
    private static final String[] WORDS = {"lesson", "all", "some", "limit", "maybe", "gap", "walk", "stair", "rule",
        "or", "and", "not", "over", "late", "clock", "room", "people", "bell", "x"};
    private static final String[] SIGNS = {";", "(", ")", "+", "-", "*", "/", "<", "=", "!", "A", "\t", "\n", " "};
    private static final String[] EDGES = {"0", "1", "6", "7", "9", "10", "11", "30", "31", "60", "61", "99", "100", "200", "201",
        "999", "1000", "9999", "0000", "00000", "12345"};
    private static final Pattern TOKEN = Pattern.compile("[a-z]+|[0-9]+|\\S");
    // What an EXPR may be, the loosest first: or, and, not or a test, a sum, a product, a part.
    private static final int OR = 0;
    private static final int AND = 1;
    private static final int NOT = 2;
    private static final int SUM = 3;
    private static final int PART = 5;

    private final Random random;

    SeededTexts(Random random) {
        this.random = random;
    }

    private boolean oneOf(int many) {
        return random.nextInt(many) == 0;
    }

    private <T> T any(T[] row) {
        return row[random.nextInt(row.length)];
    }

    String house() {
        List<String> lines = new ArrayList<>();
        int many = oneOf(10) ? random.nextInt(2) : 1 + random.nextInt(12);
        for (int i = 0; i < many; i++) lines.add(lesson(i));
        if (!oneOf(3)) addAnywhere(lines, "walk " + random.nextInt(10) + ";");
        if (!oneOf(3)) addAnywhere(lines, "stair " + (1 + random.nextInt(oneOf(2) ? 10 : 99)) + ";");
        for (int rules = random.nextInt(5); rules > 0; rules--) {
            String rule = "rule " + expr(random.nextInt(8), OR) + ";";
            if (rule.length() < 110) addAnywhere(lines, rule);
        }
        StringBuilder text = new StringBuilder();
        for (String line : lines) {
            if (text.length() + line.length() <= MOST_BYTES) text.append(line);
            else if (line.startsWith("lesson")) break;
        }
        return text.toString();
    }

    private void addAnywhere(List<String> lines, String line) {
        lines.add(random.nextInt(lines.size() + 1), line);
    }

    private String lesson(int i) {
        int from = oneOf(6) ? random.nextInt(999) : Math.min(900, i / 2 * 50 + random.nextInt(20));
        int to = Math.min(999, from + 1 + random.nextInt(60));
        StringBuilder line = new StringBuilder("lesson " + from + " " + to + " " + (1 + random.nextInt(80)) + " "
            + (oneOf(3) ? 0 : random.nextInt(oneOf(4) ? 61 : 12)) + " " + random.nextInt(10)
            + " " + (1 + random.nextInt(oneOf(2) ? 99 : 9)));
        if (i > 0 && !oneOf(4)) line.append(waits(i));
        if (oneOf(3)) line.append(" limit ").append(random.nextInt(oneOf(2) ? 100 : 12));
        if (oneOf(3)) line.append(" maybe ").append(random.nextInt(11));
        if (oneOf(4)) line.append(" gap ").append(random.nextInt(oneOf(2) ? 31 : 6));
        return line.append(oneOf(10) ? " ;\n" : ";").toString();
    }

    private String waits(int i) {
        List<Integer> others = new ArrayList<>();
        for (int o = 0; o < i; o++) others.add(o);
        Collections.shuffle(others, random);
        int many = 1 + random.nextInt(Math.min(i, 6));
        StringBuilder row = new StringBuilder(oneOf(2) ? " all" : " some " + (1 + random.nextInt(many)));
        for (int k = 0; k < many; k++) row.append(' ').append(others.get(k));
        return row.toString();
    }

    /** Without a parenthesis that the grammar doesn't need, so that what binds closer shows. */
    private String expr(int depth, int level) {
        if (depth == 0 || level == PART) {
            if (depth > 0 && oneOf(3)) return "(" + expr(depth - 1, OR) + ")";
            return oneOf(3) ? String.valueOf(random.nextInt(oneOf(2) ? 10 : 9999)) : Model.VALUES.get(random.nextInt(6));
        }
        if (oneOf(3)) return expr(depth, level + 1);
        switch (level) {
            case OR: return joined(depth, AND, " or ");
            case AND: return joined(depth, NOT, " and ");
            case NOT: return oneOf(3) ? "not " + expr(depth - 1, NOT) : expr(depth - 1, SUM) + (oneOf(2) ? "<" : "=")
                + expr(depth - 1, SUM);
            case SUM: return joined(depth, level + 1, "+", "-");
            default: return joined(depth, level + 1, "*", "/");
        }
    }

    private String joined(int depth, int level, String... joins) {
        StringBuilder row = new StringBuilder(expr(depth - 1, level));
        for (int more = random.nextInt(3); more > 0; more--) row.append(any(joins)).append(expr(depth - 1, level));
        return row.toString();
    }

    String spoiltBySigns(String text) {
        StringBuilder s = new StringBuilder(text);
        int times = 1 + random.nextInt(3);
        for (int t = 0; t < times && s.length() > 0; t++) {
            int at = random.nextInt(s.length());
            switch (random.nextInt(7)) {
                case 0: s.deleteCharAt(at); break;
                case 1: s.insert(at, any(SIGNS)); break;
                case 2: s.insert(at, " " + any(WORDS) + " "); break;
                case 3: s.insert(at, random.nextInt(10)); break;
                case 4: s.setLength(at); break;
                case 5: s.delete(at, Math.min(s.length(), at + random.nextInt(8))); break;
                default: s.insert(at, text.substring(random.nextInt(text.length()))); break;
            }
        }
        s.setLength(Math.min(MOST_BYTES, s.length()));
        return s.toString();
    }

    String spoiltByTokens(String text) {
        List<String> tokens = new ArrayList<>();
        for (Matcher m = TOKEN.matcher(text); m.find(); ) tokens.add(m.group());
        int times = 1 + random.nextInt(3);
        for (int t = 0; t < times && !tokens.isEmpty(); t++) {
            int at = random.nextInt(tokens.size());
            switch (random.nextInt(8)) {
                case 0: tokens.remove(at); break;
                case 1: tokens.set(at, token()); break;
                case 2: tokens.add(at, token()); break;
                case 3: tokens.add(at, tokens.get(random.nextInt(tokens.size()))); break;
                case 4: tokens.add(at, tokens.get(at)); break;
                case 5: tokens.addAll(at, Collections.nCopies(1 + random.nextInt(7), oneOf(2) ? "not" : "(")); break;
                case 6: addLineAgain(tokens); break;
                default: tokens.subList(at, Math.min(tokens.size(), at + random.nextInt(4))).clear(); break;
            }
        }
        String spoilt = String.join(oneOf(2) ? " " : "\n", tokens);
        return spoilt.substring(0, Math.min(MOST_BYTES, spoilt.length()));
    }

    private String token() {
        return oneOf(3) ? any(WORDS) : oneOf(2) ? any(SIGNS) : any(EDGES);
    }

    /** A second 'walk' or 'stair', or a lesson or a rule more. */
    private void addLineAgain(List<String> tokens) {
        List<Integer> starts = new ArrayList<>(List.of(0));
        for (int i = 0; i < tokens.size(); i++) {
            if (tokens.get(i).equals(";")) starts.add(i + 1);
        }
        int line = random.nextInt(starts.size());
        int end = line + 1 < starts.size() ? starts.get(line + 1) : tokens.size();
        tokens.addAll(starts.get(random.nextInt(starts.size())), new ArrayList<>(tokens.subList(starts.get(line), end)));
    }
}
