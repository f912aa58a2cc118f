import java.util.NoSuchElementException;
import java.util.Random;

/** Runs of calls by seeds, on SpiderTales and on Model: the answers must be the same. */
public final class RandomRuns {
    private interface Call {
        long answer();
    }

    private static final long NO_SUCH = Long.MIN_VALUE;
    private static final long ILLEGAL = Long.MIN_VALUE + 1;
    private static final int RUNS = 1500;
    private static final int STEPS = 300;
    // an object has 512 calls; a new sky makes some sixty of them
    private static final int MOST_CALLS = 440;

    private static int wrong = 0;
    private static final int[] asked = new int[42];

    private final Random random;
    private final int run;
    private final SpiderTales tales = new SpiderTales();
    private final Model model = new Model();
    private String latestText = "";
    private int calls = 0;

    private RandomRuns(int run) {
        this.run = run;
        random = new Random(run);
    }

    public static void main(String[] args) {
        int from = args.length > 0 ? Integer.parseInt(args[0]) : 0;
        int runs = args.length > 1 ? Integer.parseInt(args[1]) : RUNS;
        for (int run = from; run < from + runs && wrong < 20; run++) {
            new RandomRuns(run).go();
        }
        for (int i = 0; i < asked.length; i++) {
            if (asked[i] == 0 && runs >= RUNS) {
                wrong++;
                System.out.println("kind of call never made: " + i);
            }
        }
        System.out.println(wrong == 0 ? "RandomRuns: all as the model" : "RandomRuns: " + wrong + " wrong");
        if (wrong != 0) {
            System.exit(1);
        }
    }

    private void go() {
        newSky();
        for (int i = 0; i < STEPS && calls < MOST_CALLS && wrong < 20; i++) {
            call(random.nextInt(150));
        }
    }

    private static long answer(Call call) {
        try {
            return call.answer();
        } catch (NoSuchElementException e) {
            return NO_SUCH;
        } catch (IllegalArgumentException e) {
            return ILLEGAL;
        }
    }

    private long same(String name, Call ours, Call theirs) {
        calls++;
        long got = answer(ours);
        long want = answer(theirs);
        if (got != want) {
            wrong++;
            System.out.println("run " + run + ": " + name + " answered " + got + ", the model " + want);
            System.out.println("  text: " + latestText.replace("\n", "\\n"));
        }
        return got;
    }

    // ---- texts

    private int upTo(int most) {
        return random.nextInt(most + 1);
    }

    private boolean oneIn(int n) {
        return random.nextInt(n) == 0;
    }

    /** Few bits, so that tricks work often. */
    private int bits() {
        return oneIn(12) ? upTo(63) : oneIn(2) ? 0 : 1 << upTo(5) & (oneIn(3) ? 63 : 7);
    }

    private String number(int most) {
        if (oneIn(300)) {
            return oneIn(2) ? Integer.toString(most + 1) : "12345";
        }
        return (oneIn(40) ? "0" : "") + (oneIn(15) ? most : upTo(most));
    }

    private String expr(int depth) {
        String[] values = {"cord", "strength", "wary", "beliefs", "price", "help"};
        switch (random.nextInt(depth > 4 ? 3 : 12)) {
            case 0: return Integer.toString(upTo(oneIn(4) ? 9999 : 12));
            case 1:
            case 2: return values[upTo(5)];
            case 3: return expr(depth + 1) + "+" + expr(depth + 1);
            case 4: return expr(depth + 1) + "-" + expr(depth + 1);
            case 5: return expr(depth + 1) + "*" + expr(depth + 1);
            case 6: return expr(depth + 1) + "/" + expr(depth + 1);
            case 7: return "(" + expr(depth + 1) + ")";
            case 8: return "(" + expr(depth + 1) + (oneIn(2) ? "<" : " = ") + expr(depth + 1) + ")";
            case 9: return "(" + expr(depth + 1) + " and " + expr(depth + 1) + ")";
            case 10: return "(" + expr(depth + 1) + " or " + expr(depth + 1) + ")";
            default: return "(not " + expr(depth + 1) + ")";
        }
    }

    private String rule() {
        switch (random.nextInt(8)) {
            case 0: return "cord-strength/2-wary";
            case 1: return "not cord<strength and not beliefs<2";
            case 2: return "cord+help*2-wary*3-strength";
            case 3: return "beliefs=3 or strength<cord";
            case 4: return "(cord=60 or beliefs=4)and price<50";
            case 5: return "not not not not not not cord/(strength+1)";
            default: return expr(0);
        }
    }

    private String line(int kind) {
        switch (kind) {
            case 0: return "creature " + number(oneIn(3) ? 60 : 25) + " " + (oneIn(6) ? number(63) : "" + bits()) + " "
                    + number(9) + " " + number(99) + " " + number(oneIn(2) ? 9 : 2);
            case 1: return "trick " + (oneIn(3) ? bits() : 0) + " " + (oneIn(4) ? bits() : 0) + " " + bits() + " "
                    + (oneIn(2) ? 0 : bits()) + " " + number(oneIn(3) ? 20 : 5) + " " + number(oneIn(8) ? 20 : 4);
            case 2: return "hunter " + number(60) + " " + number(oneIn(2) ? 999 : 5);
            case 3: return "tale " + number(oneIn(2) ? 1023 : 15);
            case 4: return "coins " + number(999);
            case 5: return "rival " + (1 + upTo(oneIn(20) ? 30 : oneIn(2) ? 29 : 3));
            default: return "bound " + rule();
        }
    }

    private void put(StringBuilder text, int kind, int many) {
        for (int i = 0; i < many; i++) {
            text.append(line(kind)).append(oneIn(6) ? " ; " : oneIn(6) ? ";\n" : ";");
        }
    }

    private String text() {
        StringBuilder text = new StringBuilder();
        put(text, 0, oneIn(20) ? 7 : oneIn(20) ? 0 : 1 + upTo(5));
        put(text, 1, oneIn(20) ? 9 : oneIn(20) ? 0 : 1 + upTo(7));
        put(text, 2, oneIn(20) ? 7 : upTo(6));
        put(text, 3, oneIn(20) ? 9 : upTo(8));
        put(text, 4, oneIn(2) ? 1 : 0);
        put(text, 5, oneIn(4) ? 0 : 1);
        put(text, 6, oneIn(2) ? 1 : 0);
        put(text, 4 + upTo(2), oneIn(30) ? 1 : 0);
        if (oneIn(6) && text.length() > 0) {
            spoil(text);
        }
        if (text.length() > 700) {
            text.setLength(700);
        }
        return text.toString();
    }

    private void spoil(StringBuilder text) {
        String[] bad = {" ", "", ";", "(", ")", "+", "<", "=", "not ", " or ", " day ", "12345", "7", "A", "\t", "\u00e9", "x"};
        int at = random.nextInt(text.length());
        String put = bad[random.nextInt(bad.length)];
        text.replace(at, oneIn(2) ? at + 1 : at, put);
        if (oneIn(4)) {
            text.setLength(random.nextInt(text.length() + 1));
        }
    }

    private void newSky() {
        String text = text();
        latestText = text;
        // what is left on the tape would stand ahead of the text: an empty sky clears it
        if (model.count(13) > 0) {
            same("sky(0)", () -> tales.sky(0), () -> model.sky(0));
        }
        feedText(text);
        same("sky(" + text.length() + ")", () -> tales.sky(text.length()), () -> model.sky(text.length()));
        same("fault()", tales::fault, model::fault);
        for (int what = 0; what <= 16; what++) {
            int w = what;
            same("count(" + w + ")", () -> tales.count(w), () -> model.count(w));
        }
    }

    private void feedText(String text) {
        for (int i = 0; i < text.length(); i += 20) {
            int[] n = new int[5];
            for (int k = 0; k < 20; k++) {
                int sign = i + k < text.length() ? text.charAt(i + k) : ' ';
                n[k / 4] = n[k / 4] << 8 | sign;
            }
            same("feed", () -> tales.feed(n[0], n[1], n[2], n[3], n[4]), () -> model.feed(n[0], n[1], n[2], n[3], n[4]));
        }
    }

    // ---- calls

    private int some(int many) {
        if (oneIn(60)) {
            int[] far = {-1, many, Integer.MAX_VALUE, Integer.MIN_VALUE, -2, many + 1};
            return far[random.nextInt(far.length)];
        }
        return many == 0 ? 0 : random.nextInt(many);
    }

    private int between(int least, int most) {
        if (oneIn(25)) {
            int[] far = {least - 1, most + 1, Integer.MAX_VALUE, Integer.MIN_VALUE, least, most};
            return far[random.nextInt(far.length)];
        }
        return least + upTo(most - least);
    }

    private void call(int kind) {
        int c = some(model.count(0));
        int t = some(model.count(1));
        int set = oneIn(30) ? random.nextInt() : some(1 << model.count(0));
        boolean has = random.nextBoolean();
        if (kind < 45) {
            act(kind, c, t, has);
        } else if (kind < 70) {
            ask(kind - 45, c, t, set);
        } else if (kind < 100) {
            askMore(kind - 70, c, has);
        } else if (oneIn(40)) {
            newSky();
        } else {
            look(c, t);
        }
    }

    private void act(int kind, int c, int t, boolean has) {
        if (kind < 18) {
            asked[0]++;
            same("attempt(" + c + ", " + t + ")", () -> tales.attempt(c, t), () -> model.attempt(c, t));
        } else if (kind < 22) {
            asked[1]++;
            int d = oneIn(3) ? between(1, 20) : between(1, 2);
            same("days(" + d + ")", () -> tales.days(d), () -> model.days(d));
        } else if (kind < 26) {
            asked[2]++;
            same("guard(" + c + ")", () -> tales.guard(c) ? 1 : 0, () -> model.guard(c) ? 1 : 0);
        } else if (kind < 30) {
            asked[3]++;
            int n = between(1, 99);
            same("give(" + n + ")", () -> tales.give(n), () -> model.give(n));
        } else if (kind < 34) {
            asked[4]++;
            int b = some(6);
            same("tell(" + c + ", " + b + ", " + has + ")", () -> tales.tell(c, b, has), () -> model.tell(c, b, has));
        } else if (kind < 38) {
            asked[5]++;
            same("undo()", tales::undo, model::undo);
        } else if (kind < 39) {
            asked[6]++;
            tales.image();
            model.image();
        } else if (kind < 40) {
            asked[7]++;
            same("restore()", () -> tales.restore() ? 1 : 0, () -> model.restore() ? 1 : 0);
        } else if (kind < 41) {
            asked[8]++;
            int a = random.nextInt();
            same("feed", () -> tales.feed(a, ~a, 3 * a, 5 * a, 7), () -> model.feed(a, ~a, 3 * a, 5 * a, 7));
        } else if (kind < 44) {
            asked[9]++;
            int step = between(1, 3);
            int b = some(6);
            boolean mostlyHad = has;
            same("mark(" + c + ", " + step + ", " + b + ")", () -> tales.mark(c, step, b, mostlyHad),
                    () -> model.mark(c, step, b, mostlyHad));
        } else if (oneIn(2)) {
            asked[10]++;
            tales.forget();
            model.forget();
        } else if (oneIn(3)) {
            asked[11]++;
            int n = oneIn(2) ? -1 : model.count(13) + 1;
            same("sky(" + n + ")", () -> tales.sky(n), () -> model.sky(n));
        }
    }

    private void ask(int kind, int c, int t, int set) {
        int i = oneIn(2) ? -1 : between(-1, 4);
        int days = between(0, 60);
        switch (kind) {
            case 0:
            case 1:
            case 2:
                asked[12]++;
                same("plan(" + c + ", " + i + ")", () -> tales.plan(c, i), () -> model.plan(c, i));
                break;
            case 3:
            case 4:
                asked[13]++;
                same("cheapest(" + c + ")", () -> tales.cheapest(c), () -> model.cheapest(c));
                break;
            case 5:
            case 6: {
                asked[14]++;
                int all = oneIn(10) ? between(0, 63) : bits();
                int none = oneIn(10) ? between(0, 63) : bits();
                same("canBelieve(" + c + ", " + all + ", " + none + ")", () -> tales.canBelieve(c, all, none) ? 1 : 0,
                        () -> model.canBelieve(c, all, none) ? 1 : 0);
                break;
            }
            case 7:
            case 8:
                asked[15]++;
                same("order(" + i + ")", () -> tales.order(i), () -> model.order(i));
                break;
            case 9:
            case 10:
                asked[16]++;
                same("stolen(" + days + ")", () -> tales.stolen(days), () -> model.stolen(days));
                break;
            case 11:
                asked[17]++;
                same("cord(" + c + ", " + days + ")", () -> tales.cord(c, days), () -> model.cord(c, days));
                break;
            case 12:
            case 13:
                asked[18]++;
                same("when(" + c + ")", () -> tales.when(c), () -> model.when(c));
                break;
            case 14:
            case 15:
                asked[19]++;
                same("toGuard(" + days + ")", () -> tales.toGuard(days), () -> model.toGuard(days));
                break;
            case 16: {
                asked[20]++;
                int price = between(0, oneIn(2) ? 999 : 9);
                same("payers(" + set + ", " + price + ")", () -> tales.payers(set, price), () -> model.payers(set, price));
                break;
            }
            case 17: {
                asked[21]++;
                int many = between(0, oneIn(2) ? 5 : 1);
                same("few(" + set + ", " + many + ")", () -> tales.few(set, many), () -> model.few(set, many));
                break;
            }
            case 18:
                asked[22]++;
                same("tellers()", tales::tellers, model::tellers);
                break;
            case 19: {
                asked[23]++;
                int tale = some(model.count(3));
                int what = between(0, 1);
                same("borrowed(" + tale + ", " + what + ")", () -> tales.borrowed(tale, what), () -> model.borrowed(tale, what));
                break;
            }
            case 20:
                asked[24]++;
                same("fooled(" + t + ")", () -> tales.fooled(t), () -> model.fooled(t));
                break;
            case 21:
                asked[25]++;
                same("lacking(" + c + ", " + t + ")", () -> tales.lacking(c, t), () -> model.lacking(c, t));
                break;
            default:
                asked[26]++;
                same("useless()", tales::useless, model::useless);
                break;
        }
    }

    private void askMore(int kind, int c, boolean has) {
        int what = between(0, 1);
        int tries = between(1, 4);
        int days = between(0, 60);
        if (kind < 5) {
            asked[27]++;
            same("how(" + c + ", " + tries + ", " + what + ")", () -> tales.how(c, tries, what), () -> model.how(c, tries, what));
        } else if (kind < 10) {
            asked[28]++;
            same("next(" + c + ", " + tries + ", " + what + ")", () -> tales.next(c, tries, what), () -> model.next(c, tries, what));
        } else if (kind < 13) {
            asked[29]++;
            int h = some(model.count(2));
            int o = some(model.count(2));
            same("game(" + h + ", " + o + ", " + c + ", " + what + ")", () -> tales.game(h, o, c, what),
                    () -> model.game(h, o, c, what));
        } else if (kind < 18) {
            asked[30]++;
            int seed = random.nextInt();
            int many = between(0, 30);
            int sum = between(0, 2);
            same("spiders(" + seed + ", " + many + ", " + sum + ")", () -> tales.spiders(seed, many, sum),
                    () -> model.spiders(seed, many, sum));
        } else if (kind < 21) {
            asked[31]++;
            same("firm(" + c + ")", () -> tales.firm(c), () -> model.firm(c));
        } else if (kind < 23) {
            asked[32]++;
            same("loot(" + days + ")", () -> tales.loot(days), () -> model.loot(days));
        } else if (kind < 25) {
            asked[33]++;
            int set = some(1 << model.count(0));
            same("offer(" + set + ", " + what + ")", () -> tales.offer(set, what), () -> model.offer(set, what));
        } else if (kind < 26) {
            asked[34]++;
            int tale = some(model.count(3));
            same("alone(" + tale + ")", () -> tales.alone(tale), () -> model.alone(tale));
        } else if (kind < 27) {
            asked[35]++;
            same("like()", tales::like, model::like);
        } else {
            asked[36]++;
            same("nearest()", tales::nearest, model::nearest);
        }
    }

    private void look(int c, int t) {
        int kind = random.nextInt(4);
        asked[37 + kind]++;
        asked[41]++;
        if (kind == 0) {
            int what = between(0, 16);
            same("count(" + what + ")", () -> tales.count(what), () -> model.count(what));
        } else if (kind == 1) {
            int what = between(0, 7);
            same("creature(" + c + ", " + what + ")", () -> tales.creature(c, what), () -> model.creature(c, what));
        } else if (kind == 2) {
            int what = between(0, 5);
            same("trick(" + t + ", " + what + ")", () -> tales.trick(t, what), () -> model.trick(t, what));
        } else {
            same("fault()", tales::fault, model::fault);
        }
    }
}
