import java.util.ArrayList;
import java.util.HashSet;
import java.util.List;
import java.util.Random;
import java.util.Set;

/**
 * Texts made of tokens, every short one and many long ones by a seed. Their faults are told by what may stand behind
 * what (no grammar is called here), and must be those of sky() and fault().
 */
public final class TextRuns {
    private static final String[] IN_RULES = {"1", "12345", "cord", "day", "not", "or", "and", "(", ")", "+", "/", "<", "=", ";", "#"};
    private static final String[] IN_LINES = {"coins", "rival", "bound", "tale", "hunter", "1", "31", "1000", "10000", ";", "not", "A"};
    private static final String[] LIKELY = {"1", "9999", "cord", "strength", "wary", "beliefs", "price", "help", "not", "or", "and",
        "(", "(", "(", ")", ")", ")", "+", "-", "*", "/", "<", "="};
    private static final String[] VALUES = {"cord", "strength", "wary", "beliefs", "price", "help"};
    private static final String[] KINDS = {"creature", "trick", "hunter", "tale", "coins", "rival"};
    private static final int[][] MOST = {{60, 63, 9, 99, 9}, {63, 63, 63, 63, 20, 20}, {60, 999}, {1023}, {999}, {30}};
    private static final int[] ROWS = {6, 8, 6, 8, 1, 1};
    private static final int LONG_TEXTS = 6000;

    /** What the text up to a token allows behind it. */
    private static final class Place {
        private int kind = -1;
        private int column = 0;
        private boolean inRule = false;
        private final int[] rows = new int[KINDS.length];
        private boolean ruleTold = false;
        // of the rule: one flag for each open expression, whether it may still compare
        private final List<Boolean> mayCompare = new ArrayList<>();
        private boolean partIsDue = false;
        private boolean notMayStand = false;
        private int nots = 0;
        private boolean begins = false;

        boolean isBetweenLines() {
            return kind == -1 && !inRule;
        }

        /** 0, or the fault of a token here. */
        int behind(String token) {
            return inRule ? inRule(token) : kind >= 0 ? inLine(token) : first(token);
        }

        private int first(String token) {
            if (token.equals("bound")) {
                if (ruleTold) {
                    return 5;
                }
                ruleTold = true;
                inRule = true;
                openExpression();
                return 0;
            }
            for (int k = 0; k < KINDS.length; k++) {
                if (token.equals(KINDS[k])) {
                    if (rows[k] == ROWS[k]) {
                        return k < 4 ? 2 : 5;
                    }
                    rows[k]++;
                    kind = k;
                    column = 0;
                    return 0;
                }
            }
            return 1;
        }

        private int inLine(String token) {
            if (column == MOST[kind].length) {
                kind = -1;
                return token.equals(";") ? 0 : 1;
            }
            if (!isNumber(token)) {
                return 1;
            }
            int least = KINDS[kind].equals("rival") ? 1 : 0;
            int most = MOST[kind][column];
            column++;
            boolean asTold = token.length() <= 4 && Integer.parseInt(token) >= least && Integer.parseInt(token) <= most;
            return asTold ? 0 : 2;
        }

        private void openExpression() {
            mayCompare.add(true);
            begins = true;
            begin();
        }

        private void begin() {
            partIsDue = true;
            notMayStand = true;
            nots = 0;
        }

        private int inRule(String token) {
            boolean first = begins;
            begins = false;
            if (!partIsDue) {
                return behindPart(token);
            }
            boolean word = token.charAt(0) >= 'a' && token.charAt(0) <= 'z';
            if (first && mayCompare.size() == 7) {
                return word || isNumber(token) || token.equals("(") ? 2 : 1;
            }
            if (token.equals("not") && notMayStand) {
                nots++;
                return nots == 7 ? 2 : 0;
            }
            if (token.equals("(")) {
                openExpression();
                return 0;
            }
            partIsDue = false;
            if (word) {
                return List.of(VALUES).contains(token) ? 0 : 3;
            }
            return !isNumber(token) ? 1 : token.length() > 4 ? 2 : 0;
        }

        private int behindPart(String token) {
            int last = mayCompare.size() - 1;
            switch (token) {
                case "+": case "-": case "*": case "/":
                    partIsDue = true;
                    notMayStand = false;
                    return 0;
                case "<": case "=":
                    partIsDue = true;
                    notMayStand = false;
                    return mayCompare.set(last, false) ? 0 : 1;
                case "or": case "and":
                    mayCompare.set(last, true);
                    begin();
                    return 0;
                case ")":
                    mayCompare.remove(last);
                    return last > 0 ? 0 : 1;
                case ";":
                    mayCompare.remove(last);
                    inRule = false;
                    return last == 0 ? 0 : 1;
                default:
                    return 1;
            }
        }

        private static boolean isNumber(String token) {
            return token.charAt(0) >= '0' && token.charAt(0) <= '9';
        }
    }

    private static final int TEXTS_OF_AN_OBJECT = 12;
    private static SpiderTales tales = new SpiderTales();
    private static int asked = 0;
    private static final Set<String> seen = new HashSet<>();

    public static void main(String[] args) {
        Check.part("texts of few tokens");
        everyShort("", IN_LINES, 4);
        everyShort("bound ", IN_RULES, 4);
        everyShort("bound ( ( ( ( ( ", IN_RULES, 3);
        everyShort("bound not not not not not ", IN_RULES, 3);
        Check.part("texts of many tokens");
        Random random = new Random(7);
        for (int i = 0; i < LONG_TEXTS; i++) {
            longText(random);
        }
        Check.due("kinds of faults", seen.size(), 5);
        Check.end("TextRuns");
    }

    private static void everyShort(String text, String[] tokens, int more) {
        ask(text);
        for (int i = 0; i < tokens.length && more > 0; i++) {
            everyShort(text + tokens[i] + " ", tokens, more - 1);
        }
    }

    /** Mostly tokens that may stand, so that the text gets long. */
    private static void longText(Random random) {
        StringBuilder text = new StringBuilder(random.nextInt(4) == 0 ? "" : "bound ");
        int many = 5 + random.nextInt(60);
        for (int i = 0; i < many && text.length() < 600; i++) {
            String[] from = random.nextInt(12) > 0 ? LIKELY : random.nextInt(2) == 0 ? IN_RULES : IN_LINES;
            int tries = random.nextInt(30) == 0 ? 0 : 40;
            String token = from[random.nextInt(from.length)];
            for (; tries > 0 && faultOf(text + token + " ")[2] < text.length() + 1; tries--) {
                from = random.nextInt(3) > 0 ? LIKELY : random.nextInt(2) == 0 ? IN_RULES : IN_LINES;
                token = from[random.nextInt(from.length)];
            }
            text.append(token).append(random.nextInt(6) == 0 ? "\n " : " ");
        }
        ask(text.toString());
    }

    /** The fault, its place, and how far the text is without one. */
    private static int[] faultOf(String text) {
        Place place = new Place();
        int at = 0;
        while (at < text.length()) {
            if (text.charAt(at) == ' ' || text.charAt(at) == '\n') {
                at++;
                continue;
            }
            int end = at;
            while (end < text.length() && text.charAt(end) != ' ' && text.charAt(end) != '\n') {
                end++;
            }
            int fault = place.behind(text.substring(at, end));
            if (fault != 0) {
                return new int[] {fault, at, at};
            }
            at = end;
        }
        return place.isBetweenLines() ? new int[] {0, SpiderTales.NONE, text.length()} : new int[] {1, text.length(), text.length()};
    }

    private static void ask(String text) {
        if (asked++ % TEXTS_OF_AN_OBJECT == 0) {
            tales = new SpiderTales();
        }
        int[] due = faultOf(text);
        seen.add("" + due[0]);
        Check.due("sky of " + text, Check.read(tales, text), due[0]);
        Check.due("fault of " + text, tales.fault(), due[1]);
    }
}
