import java.util.ArrayList;
import java.util.LinkedHashSet;
import java.util.List;
import java.util.Set;

/**
 * The faults of texts, found another way than the class finds them: a law by all stacks of symbols that
 * a grammar can still stand at, a fort by a walk over its tokens.
 */
final class Grammar {
    private record Token(char sign, int at, String digits) { }

    private record Symbol(char kind, int depth) { }

    private static final int DEEPEST = 6;

    private Grammar() { }

    static int fault(int sort, String text) {
        return sort == 0 ? fortFault(text) : lawFault(text);
    }

    /** Tokens: a number is one token '0'. */
    private static List<Token> tokens(String text) {
        List<Token> found = new ArrayList<>();
        for (int at = 0; at < text.length(); at++) {
            char sign = text.charAt(at);
            if (sign == ' ') {
                continue;
            }
            int to = at;
            while (to < text.length() && Character.toString(text.charAt(to)).matches("[0-9]")) {
                to++;
            }
            if (to > at) {
                found.add(new Token('0', at, text.substring(at, to)));
                at = to - 1;
            } else {
                found.add(new Token(sign == '0' ? '?' : sign, at, ""));
            }
        }
        return found;
    }

    private static int lawFault(String text) {
        Set<List<Symbol>> stacks = Set.of(List.of(new Symbol('L', 0)));
        for (Token token : tokens(text)) {
            Set<List<Symbol>> next = new LinkedHashSet<>();
            for (List<Symbol> stack : expanded(stacks)) {
                if (!stack.isEmpty() && stack.get(0).kind() == token.sign()) {
                    next.add(stack.subList(1, stack.size()));
                }
            }
            if (next.isEmpty()) {
                return token.at();
            }
            if (token.digits().length() > 4) {
                return token.at() + 4;
            }
            stacks = next;
        }
        return expanded(stacks).contains(List.<Symbol>of()) ? -1 : text.length();
    }

    /** All stacks with a terminal on top (or empty) that these can become. */
    private static Set<List<Symbol>> expanded(Set<List<Symbol>> stacks) {
        Set<List<Symbol>> done = new LinkedHashSet<>();
        List<List<Symbol>> open = new ArrayList<>(stacks);
        while (!open.isEmpty()) {
            List<Symbol> stack = open.remove(open.size() - 1);
            if (stack.isEmpty() || "LKGJTPUSQMRA".indexOf(stack.get(0).kind()) < 0) {
                done.add(stack);
                continue;
            }
            Symbol top = stack.get(0);
            for (String right : rules(top.kind())) {
                List<Symbol> grown = grow(top, right);
                if (grown != null) {
                    grown.addAll(stack.subList(1, stack.size()));
                    open.add(grown);
                }
            }
        }
        return done;
    }

    private static String[] rules(char kind) {
        return switch (kind) {
            case 'L' -> new String[] {"y:SK", "y:G?SK"};
            case 'K' -> new String[] {"", ";L"};
            case 'G' -> new String[] {"TJ"};
            case 'J' -> new String[] {"", "|TJ"};
            case 'T' -> new String[] {"UP"};
            case 'P' -> new String[] {"", "&UP"};
            case 'U' -> new String[] {"!U", "(G)", "S=S", "S<S", "S>S"};
            case 'S' -> new String[] {"MQ"};
            case 'Q' -> new String[] {"", "+MQ", "-MQ"};
            case 'M' -> new String[] {"AR"};
            case 'R' -> new String[] {"", "*AR", "/AR"};
            default -> new String[] {"0", "d", "i", "e", "h", "w", "n", "[S]"};
        };
    }

    private static List<Symbol> grow(Symbol top, String right) {
        int depth = top.depth();
        if (!right.isEmpty() && "![(".indexOf(right.charAt(0)) >= 0) {
            depth++;
            if (depth > DEEPEST) {
                return null;
            }
        }
        List<Symbol> grown = new ArrayList<>();
        for (char kind : right.toCharArray()) {
            grown.add(new Symbol(kind, depth));
        }
        return grown;
    }

    private static int fortFault(String text) {
        List<Token> tokens = tokens(text);
        Set<Character> letters = new LinkedHashSet<>();
        int men = 0;
        boolean rules = false;
        char clause = 0;
        boolean needsClause = true;
        int hours = 8;
        List<int[]> rows = new ArrayList<>();
        for (int k = 0; k < tokens.size(); k++) {
            Token token = tokens.get(k);
            char sign = token.sign();
            if (needsClause) {
                if (sign == 's' && !rules) {
                    rules = true;
                } else if (sign == 'm' && men < 6) {
                    men++;
                    rows.add(new int[] {3, 0});
                } else {
                    return token.at();
                }
                clause = sign;
                letters.clear();
                needsClause = false;
            } else if (sign == ';') {
                needsClause = true;
            } else if ((clause == 's' ? "hnc" : "ndeb").indexOf(sign) >= 0 && letters.add(sign)) {
                if (k + 1 == tokens.size()) {
                    return text.length();
                }
                Token number = tokens.get(++k);
                if (number.sign() != '0') {
                    return number.at();
                }
                if (number.digits().length() > 2) {
                    return number.at() + 2;
                }
                int value = Integer.parseInt(number.digits());
                String key = "" + clause + sign;
                int low = key.equals("sh") ? 4 : key.equals("sn") ? 1 : 0;
                int high = key.equals("sh") || key.equals("mn") ? 10 : key.equals("sn") ? 20 : key.equals("sc") ? 99 : 9;
                if (value < low || value > high) {
                    return number.at() + number.digits().length() - 1;
                }
                if (key.equals("sh")) {
                    hours = value;
                } else if (key.equals("mn")) {
                    rows.get(men - 1)[0] = value;
                } else if (key.equals("mb")) {
                    rows.get(men - 1)[1] = value;
                }
            } else {
                return token.at();
            }
        }
        boolean whole = !needsClause && men >= 2;
        for (int[] row : rows) {
            whole &= row[0] <= hours && row[1] < hours;
        }
        return whole ? -1 : text.length();
    }
}
