import java.util.ArrayList;
import java.util.List;
import java.util.regex.Matcher;
import java.util.regex.Pattern;

/**
 * THE RULES of a text, with the FAULT found by a machine that looks at one word after the other, and conditions
 * worked out anew from their words each time: split at the "or"s that stand open, then at the "and"s.
 */
final class SlowText {
    private static final Pattern WORD = Pattern.compile("[a-z]+|[0-9]+|[^ ]", Pattern.DOTALL);
    private static final List<String> KINDS = List.of("lens", "scratched", "warm", "dusty", "twin", "tilted");
    private static final List<String> FACTS = List.of("heat", "gap", "eye", "bend", "number");

    /** The words of each rule, without its ";". */
    final List<List<String>> rules = new ArrayList<>();
    int fault = -1;

    private enum Due { KIND, IF_OR_DO, ONE, SIGN, VALUE, BEHIND_ONE, N, SEMICOLON }

    SlowText(int[] bytes) {
        StringBuilder text = new StringBuilder();
        for (int b : bytes) text.append((char) b);
        Matcher m = WORD.matcher(text);
        Due due = Due.KIND;
        int open = 0;
        List<String> rule = new ArrayList<>();
        while (fault < 0 && m.find()) {
            String w = m.group();
            boolean number = w.matches("[0-9]{1,4}");
            boolean value = number || FACTS.contains(w);
            Due next = null;
            switch (due) {
                case KIND:
                    if (KINDS.contains(w) && rules.size() < 8) next = Due.IF_OR_DO;
                    break;
                case IF_OR_DO:
                    if (w.equals("if")) next = Due.ONE;
                    else next = behindCondition(w);
                    break;
                case ONE:
                    if (w.equals("not")) next = Due.ONE;
                    else if (w.equals("(") && open < 3) {
                        open++;
                        next = Due.ONE;
                    } else if (value) next = Due.SIGN;
                    break;
                case SIGN:
                    if (w.equals("<") || w.equals("=") || w.equals(">")) next = Due.VALUE;
                    break;
                case VALUE:
                    if (value) next = Due.BEHIND_ONE;
                    break;
                case BEHIND_ONE:
                    if (w.equals("and") || w.equals("or")) next = Due.ONE;
                    else if (w.equals(")") && open > 0) {
                        open--;
                        next = Due.BEHIND_ONE;
                    } else if (open == 0) next = behindCondition(w);
                    break;
                case N:
                    if (number && Integer.parseInt(w) <= 99) next = Due.SEMICOLON;
                    break;
                default:
                    if (w.equals(";")) next = Due.KIND;
            }
            if (next == null) fault = m.start();
            if (next == Due.KIND) {
                rules.add(rule);
                rule = new ArrayList<>();
            } else {
                rule.add(w);
            }
            if (next != null) due = next;
        }
        if (fault < 0 && due != Due.KIND) fault = bytes.length;
    }

    private static Due behindCondition(String w) {
        if (w.equals("flat")) return Due.SEMICOLON;
        return w.equals("more") || w.equals("less") ? Due.N : null;
    }

    int bend(int kind, int bend, int number, int heat, int gap, int eye) {
        int[] facts = {heat, gap, eye, bend, number};
        for (List<String> rule : rules) {
            int told = KINDS.indexOf(rule.get(0));
            boolean under = told == kind || told == 0 || told == 2 && kind == 3 || told == 4 && kind == 5;
            boolean flat = rule.get(rule.size() - 1).equals("flat");
            int end = rule.size() - (flat ? 1 : 2);
            if (!under || end > 1 && !any(rule.subList(2, end), facts)) continue;
            if (flat) return 0;
            int n = Integer.parseInt(rule.get(end + 1));
            return rule.get(end).equals("more") ? bend + n : bend - n;
        }
        return bend;
    }

    private static List<List<String>> split(List<String> words, String at) {
        List<List<String>> parts = new ArrayList<>();
        parts.add(new ArrayList<>());
        int open = 0;
        for (String w : words) {
            if (w.equals("(")) open++;
            if (w.equals(")")) open--;
            if (open == 0 && w.equals(at)) parts.add(new ArrayList<>());
            else parts.get(parts.size() - 1).add(w);
        }
        return parts;
    }

    private static boolean any(List<String> words, int[] facts) {
        boolean any = false;
        for (List<String> part : split(words, "or")) {
            boolean all = true;
            for (List<String> one : split(part, "and")) all &= one(one, facts);
            any |= all;
        }
        return any;
    }

    private static boolean one(List<String> words, int[] facts) {
        if (words.get(0).equals("not")) return !one(words.subList(1, words.size()), facts);
        if (words.get(0).equals("(")) return any(words.subList(1, words.size() - 1), facts);
        int order = Integer.compare(value(words.get(0), facts), value(words.get(2), facts));
        return words.get(1).equals("<") ? order < 0 : words.get(1).equals("=") ? order == 0 : order > 0;
    }

    private static int value(String word, int[] facts) {
        return FACTS.contains(word) ? facts[FACTS.indexOf(word)] : Integer.parseInt(word);
    }
}
