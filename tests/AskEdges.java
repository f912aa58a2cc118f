import java.util.function.IntFunction;
import java.util.function.ToLongFunction;

/** Edges of the questions: promises 5 to 7, 14 to 25 and 28 to 40, and the terms behind them. */
public final class AskEdges {
    private static final int NONE = SpiderTales.NONE;
    private static final int NO_WAY = -2;
    private static final int FAR = Integer.MAX_VALUE;
    private static final int LOW = Integer.MIN_VALUE;

    private static final Quiet RICH = new Quiet(Scene::richWithTape);
    private static final Quiet FRESH = new Quiet(SpiderTales::new);

    public static void main(String[] args) {
        countEdges();
        creatureEdges();
        trickEdges();
        planEdges();
        planOfOneOrMany();
        cheapestEdges();
        canBelieveEdges();
        canBelieveAllOrNothing();
        orderEdges();
        orderOfNoneAndOfSix();
        stolenEdges();
        cordEdges();
        whenEdges();
        toGuardEdges();
        behindTheLastDay();
        payersEdges();
        fewEdges();
        tellersEdges();
        borrowedEdges();
        howEdges();
        nextEdges();
        gameEdges();
        gameBySkill();
        gameByPrice();
        spidersEdges();
        spidersBySeed();
        fooledEdges();
        lackingEdges();
        uselessEdges();
        firmEdges();
        lootEdges();
        offerEdges();
        aloneEdges();
        likeEdges();
        nearestEdges();
        withTheFirstGuarded();
        Check.end("AskEdges");
    }

    /** Each of these numbers is refused by NoSuchElementException, in an object that has all and in a new one. */
    private static void noSuch(String call, IntFunction<ToLongFunction<SpiderTales>> asked, int... numbers) {
        for (int number : numbers) {
            RICH.noSuch(call + " " + number, asked.apply(number));
            FRESH.noSuch(call + " " + number, asked.apply(number));
        }
    }

    private static void illegal(String call, IntFunction<ToLongFunction<SpiderTales>> asked, int... numbers) {
        for (int number : numbers) {
            RICH.illegal(call + " " + number, asked.apply(number));
        }
    }

    private static long bit(boolean holds) {
        return holds ? 1 : 0;
    }

    // ---- promises 5 to 7

    private static void countEdges() {
        Check.part("promise 5: NoSuchElementException: another what");
        noSuch("count", n -> x -> x.count(n), -1, 17, LOW, FAR);
        int[] due = {4, 3, 2, 2, 48, 3, 1, 6, 8, 1, 3, 7, 3, 40, 1, 2, 1};
        for (int what = 0; what < due.length; what++) {
            int w = what;
            RICH.answers("count(" + w + ")", x -> x.count(w), due[w]);
        }
    }

    private static void creatureEdges() {
        Check.part("promise 6: NoSuchElementException: no such CREATURE, what");
        noSuch("creature, 0", n -> x -> x.creature(n, 0), -1, 4, LOW, FAR);
        noSuch("creature 0,", n -> x -> x.creature(0, n), -1, 8, LOW, FAR);
        int[][] due = {{20, 9, 2, 30, 5, 11, 0, 3}, {5, 1, 0, 50, 3, 8, 1, 0}, {5, 3, 0, 10, 0, 11, 1, 0},
            {5, 1, 0, 60, 0, 8, 2, 0}};
        for (int c = 0; c < due.length; c++) {
            for (int what = 0; what < 8; what++) {
                int creature = c;
                int w = what;
                RICH.answers("creature(" + c + ", " + w + ")", x -> x.creature(creature, w), due[c][w]);
            }
        }
        StringBuilder six = new StringBuilder();
        for (int c = 0; c < 6; c++) {
            six.append("creature ").append(10 + c).append(" 0 0 0 0;");
        }
        SpiderTales y = Check.of(six.toString());
        Check.due("the sixth", y.creature(5, 0), 15);
        Check.noSuch("the seventh", () -> y.creature(6, 0));
        Check.due("keys of one without tricks", y.creature(0, 7), 0);
        SpiderTales z = Check.of("creature 1 0 0 0 0;" + "trick 0 0 0 0 0 0;".repeat(8));
        Check.due("eight keys", z.creature(0, 7), 255);
        SpiderTales w = Check.of("creature 1 0 0 0 0;trick 0 0 0 0 1 20;coins 0;");
        Check.due("keys without coins", w.creature(0, 7), 1);
    }

    private static void trickEdges() {
        Check.part("promise 7: NoSuchElementException: no such TRICK, what");
        noSuch("trick, 0", n -> x -> x.trick(n, 0), -1, 3, LOW, FAR);
        noSuch("trick 0,", n -> x -> x.trick(0, n), -1, 6, LOW, FAR);
        int[][] due = {{0, 0, 1, 0, 8, 3}, {1, 2, 2, 1, 10, 5}, {4, 0, 0, 3, 0, 20}};
        for (int t = 0; t < due.length; t++) {
            for (int what = 0; what < 6; what++) {
                int trick = t;
                int w = what;
                RICH.answers("trick(" + t + ", " + w + ")", x -> x.trick(trick, w), due[t][w]);
            }
        }
        StringBuilder eight = new StringBuilder();
        for (int t = 0; t < 8; t++) {
            eight.append("trick ").append(10 + t).append(" 0 0 0 0 0;");
        }
        SpiderTales y = Check.of(eight.toString());
        Check.due("the eighth", y.trick(7, 0), 17);
        Check.noSuch("the ninth", () -> y.trick(8, 0));
    }

    // ---- promises 14 to 17

    private static void planEdges() {
        Check.part("promise 14: -2: there is none, not FREE (whatever i from NONE on); NoSuchElementException");
        noSuch("plan, -1", n -> x -> x.plan(n, -1), -1, 4, LOW, FAR);
        noSuch("plan 0,", n -> x -> x.plan(0, n), -2, -3, LOW);
        RICH.answers("plan(0, -1)", x -> x.plan(0, -1), 1);
        RICH.answers("plan(0, 0)", x -> x.plan(0, 0), 0);
        RICH.noSuch("no second try", x -> x.plan(0, 1));
        RICH.noSuch("no such try", x -> x.plan(0, FAR));
        int[] whatever = {-1, 0, 1, 5000, FAR};
        for (int i : whatever) {
            for (int c = 1; c <= 3; c++) {
                int creature = c;
                RICH.answers("not free, " + i, x -> x.plan(creature, i), NO_WAY);
            }
            Check.due("there is none, " + i, Check.of("creature 1 0 0 0 0;trick 1 0 0 0 1 0;").plan(0, i), NO_WAY);
            Check.due("no tricks, " + i, Check.of("creature 1 0 0 0 0;").plan(0, i), NO_WAY);
        }
        for (int c = 1; c <= 3; c++) {
            int creature = c;
            RICH.noSuch("not free, i below NONE", x -> x.plan(creature, -2));
        }
        SpiderTales y = Check.of("creature 1 0 0 0 0;");
        Check.noSuch("no tricks, i below NONE", () -> y.plan(0, -2));
    }

    private static void planOfOneOrMany() {
        Check.part("terms 3: A PLAN, the fewest TRIES; of like ones the first row");
        SpiderTales x = Scene.of(60, 20, 21, 1, 0);
        int[] tries = {3, 1, 2, 1, 1};
        int[] first = {1, 1, 0, 0, 0};
        for (int c = 0; c < tries.length; c++) {
            int creature = c;
            Check.due("tries at " + c, x.plan(c, -1), tries[c]);
            Check.due("the first at " + c, x.plan(c, 0), first[c]);
            Check.noSuch("behind the last at " + c, () -> x.plan(creature, tries[creature]));
        }
        Check.due("0, then 1", x.plan(2, 1), 1);
        SpiderTales many = Check.of("creature 60 0 0 0 0;trick 0 0 0 0 1 20;coins 0;");
        Check.due("sixty", many.plan(0, -1), 60);
        Check.due("the sixtieth", many.plan(0, 59), 0);
        Check.noSuch("the sixty-first", () -> many.plan(0, 60));
        SpiderTales eight = Check.of("creature 1 0 0 0 0;" + "trick 1 0 0 0 1 0;".repeat(7) + "trick 0 0 0 0 1 0;");
        Check.due("by the eighth", eight.plan(0, 0), 7);
        SpiderTales last = Scene.repeat(Scene.of(60), 59, 0, 0);
        Check.due("cord as it is", last.plan(0, -1), 1);
        Check.due("by the first trick", last.plan(0, 0), 0);
        last.days(1);
        Check.due("cord works loose: by the other one", last.plan(0, 0), 1);
        String holds = "creature 9 3 0 0 0;trick 0 0 0 0 0 7;bound beliefs=2;";
        Check.due("the rule holds, a try must be", Check.of(holds).plan(0, -1), 1);
        Check.due("and costs", Check.of(holds).cheapest(0), 7);
        Check.due("no trick works", Check.of("creature 9 3 0 0 0;trick 4 0 0 0 0 7;bound beliefs=2;").plan(0, -1), NO_WAY);
        Check.due("by a rule that never holds", Check.of("creature 9 3 0 0 0;trick 0 0 0 0 1 7;bound 0;").plan(0, -1), NO_WAY);
    }

    private static void cheapestEdges() {
        Check.part("promise 15: NONE: there is none, not FREE");
        noSuch("cheapest", n -> x -> x.cheapest(n), -1, 4, LOW, FAR);
        RICH.answers("cheapest(0)", x -> x.cheapest(0), 3);
        for (int c = 1; c <= 3; c++) {
            int creature = c;
            RICH.answers("not free", x -> x.cheapest(creature), NONE);
        }
        Check.due("there is none", Check.of("creature 1 0 0 0 0;trick 1 0 0 0 1 0;").cheapest(0), NONE);
        Check.due("no tricks", Check.of("creature 1 0 0 0 0;").cheapest(0), NONE);
        Check.due("for nothing", Check.of("creature 60 0 0 0 0;trick 0 0 0 0 1 0;").cheapest(0), 0);
        Check.due("sixty by twenty", Check.of("creature 60 0 0 0 0;trick 0 0 0 0 1 20;coins 0;").cheapest(0), 1200);
        Check.due("fewest is not cheapest", Check.of("creature 20 0 0 0 0;trick 0 0 0 0 20 20;trick 0 0 0 0 1 0;").cheapest(0), 0);
        // all 64 sets of beliefs come about ahead of the last trick
        Check.due("all sets", Check.of("creature 1 0 0 0 0;trick 0 0 1 0 0 1;trick 0 0 2 0 0 1;trick 0 0 4 0 0 1;"
                + "trick 0 0 8 0 0 1;trick 0 0 16 0 0 1;trick 0 0 32 0 0 1;trick 63 0 0 0 20 1;").cheapest(0), 7);
        // dear ways to most sets come about first, and are bettered again and again
        Check.due("bettered", Check.of("creature 1 0 0 0 0;trick 0 0 8 0 0 2;trick 6 0 16 0 0 9;trick 44 0 1 8 0 9;"
                + "trick 0 0 4 0 0 5;trick 0 0 2 36 0 1;trick 0 0 32 8 0 2;trick 36 16 32 34 0 0;trick 19 0 0 0 20 0;").cheapest(0), 28);
        Check.due("bettered", Check.of("creature 1 0 0 0 0;trick 0 8 2 8 0 5;trick 0 0 32 10 0 20;trick 0 0 16 32 0 20;"
                + "trick 8 48 2 17 0 5;trick 0 0 1 32 0 2;trick 0 8 8 16 0 20;trick 24 0 4 0 0 5;trick 10 16 0 0 20 1;").cheapest(0), 26);
        Check.due("bettered", Check.of("creature 1 0 0 0 0;trick 1 0 2 0 0 5;trick 0 8 4 5 0 9;trick 32 0 8 0 0 20;"
                + "trick 0 1 16 2 0 1;trick 0 2 1 0 0 0;trick 0 0 4 48 0 0;trick 4 0 32 0 0 0;trick 23 0 0 0 20 0;").cheapest(0), 6);
    }

    private static void canBelieveEdges() {
        Check.part("promise 16: IllegalArgumentException: not 0 to 63, a BELIEF is in both; behind NoSuchElementException");
        noSuch("canBelieve, 0, 0", n -> x -> bit(x.canBelieve(n, 0, 0)), -1, 4, LOW, FAR);
        noSuch("canBelieve, 64, -1", n -> x -> bit(x.canBelieve(n, 64, -1)), -1, 4, LOW, FAR);
        for (int c = 0; c <= 3; c++) {
            int creature = c;
            illegal("all", n -> x -> bit(x.canBelieve(creature, n, 0)), -1, 64, LOW, FAR);
            illegal("none", n -> x -> bit(x.canBelieve(creature, 0, n)), -1, 64, LOW, FAR);
            illegal("in both", n -> x -> bit(x.canBelieve(creature, n, n)), 1, 32, 63);
            RICH.illegal("one in both", x -> bit(x.canBelieve(creature, 48, 33)));
            RICH.answers("0 and 0", x -> bit(x.canBelieve(creature, 0, 0)), creature == 0 ? 1 : 0);
            RICH.answers("0 and 63", x -> bit(x.canBelieve(creature, 0, 63)), 0);
            RICH.answers("63 and 0", x -> bit(x.canBelieve(creature, 63, 0)), 0);
        }
    }

    private static void canBelieveAllOrNothing() {
        Check.part("terms 3: CAN BELIEVE (it may already), FREE still at the end, or CAUGHT by the last one");
        Check.due("63 already", Check.of("creature 1 63 0 0 0;").canBelieve(0, 63, 0), true);
        Check.due("0 already", Check.of("creature 1 0 0 0 0;").canBelieve(0, 0, 63), true);
        Check.due("41 already", Check.of("creature 1 41 0 0 0;").canBelieve(0, 41, 22), true);
        Check.due("one more", Check.of("creature 1 41 0 0 0;").canBelieve(0, 43, 0), false);
        Check.due("one less", Check.of("creature 1 41 0 0 0;").canBelieve(0, 0, 1), false);
        SpiderTales x = Check.of("creature 1 0 0 0 0;trick 0 0 1 0 1 0;trick 1 0 2 0 0 0;");
        Check.due("caught by the last one", x.canBelieve(0, 1, 0), true);
        Check.due("no try behind that", x.canBelieve(0, 2, 0), false);
        SpiderTales y = Check.of("creature 2 0 0 0 0;trick 0 0 1 0 1 0;trick 1 0 2 0 0 0;");
        Check.due("free still", y.canBelieve(0, 2, 0), true);
        Check.due("it comes with the first", y.canBelieve(0, 2, 1), false);
        SpiderTales z = Check.of("creature 9 0 0 0 0;trick 0 0 1 0 0 0;trick 1 0 2 1 0 0;trick 2 0 4 2 0 0;trick 4 0 8 4 0 0;"
                + "trick 8 0 16 8 0 0;trick 16 0 32 16 0 0;trick 32 0 0 32 0 20;coins 0;");
        for (int belief = 0; belief < 6; belief++) {
            Check.due("each alone", z.canBelieve(0, 1 << belief, 63 & ~(1 << belief)), true);
        }
        Check.due("all six", z.canBelieve(0, 63, 0), true);
    }

    private static void orderEdges() {
        Check.part("promise 17: NoSuchElementException (ahead): i below NONE, there are not so many FREE ones");
        noSuch("order", n -> x -> x.order(n), -2, 1, LOW, FAR);
        RICH.answers("order(-1)", x -> x.order(-1), 1);
        RICH.answers("order(0)", x -> x.order(0), 0);
        FRESH.answers("order(-1)", x -> x.order(-1), 0);
        FRESH.noSuch("order(0)", x -> x.order(0));
        SpiderTales y = Check.of("creature 1 0 0 0 0;creature 1 1 0 0 0;trick 1 0 0 0 1 0;");
        for (int i = -1; i <= 1; i++) {
            Check.due("it can't be, " + i, y.order(i), NO_WAY);
        }
        Check.noSuch("it can't be, 2", () -> y.order(2));
        Check.noSuch("it can't be, -2", () -> y.order(-2));
        y.attempt(1, 0);
        Check.due("it can't be, -1", y.order(-1), NO_WAY);
        Check.due("it can't be, 0", y.order(0), NO_WAY);
        Check.noSuch("one is free", () -> y.order(1));
    }

    private static void orderOfNoneAndOfSix() {
        Check.part("terms 3: AN ORDER of none, of six, by HELP of those who are CAUGHT by then");
        SpiderTales none = Scene.of(1, 1);
        none.attempt(0, 0);
        none.attempt(1, 0);
        Check.due("none is free", none.order(-1), 0);
        Check.noSuch("none is free", () -> none.order(0));
        SpiderTales like = Scene.of(1, 1, 1, 1, 1, 1);
        Check.due("six", like.order(-1), 6);
        for (int i = 0; i < 6; i++) {
            Check.due("the first order", like.order(i), i);
        }
        Check.noSuch("no seventh", () -> like.order(6));
        // one trick of 6: with help of 9 from each one that is caught, only the last ones can be brought in by one try
        SpiderTales six = Check.of("creature 51 0 0 0 9;creature 42 0 0 0 9;creature 33 0 0 0 9;creature 24 0 0 0 9;"
                + "creature 15 0 0 0 9;creature 6 0 0 0 9;trick 0 0 0 0 6 0;");
        Check.due("one try each", six.order(-1), 6);
        for (int i = 0; i < 6; i++) {
            Check.due("the weakest first", six.order(i), 5 - i);
        }
        SpiderTales loose = Scene.repeat(Scene.of(60, 60), 59, 1, 0);
        Check.due("no cord works loose meanwhile", loose.order(-1), 4);
        Check.due("0 first", loose.order(0), 0);
        // 1 can be caught ahead of 0 alone: with its help the cord goes past 3
        SpiderTales z = Check.of("creature 9 0 0 0 1;creature 9 0 0 0 1;trick 0 0 0 0 3 0;bound cord=3 or price=1 or strength=cord+5;");
        Check.due("one, then the other", z.order(-1), 2);
        SpiderTales w = Check.of("creature 9 0 0 0 1;creature 9 0 0 0 1;trick 0 0 0 0 3 0;bound cord=3;");
        Check.due("with help the cord is 4, 8 ..", w.order(-1), NO_WAY);
    }

    // ---- promises 18 to 21

    private static SpiderTales caught(int rival, int... prices) {
        StringBuilder text = new StringBuilder("trick 0 0 0 0 1 0;rival " + rival + ";");
        for (int price : prices) {
            text.append("creature 1 0 0 ").append(price).append(" 0;");
        }
        SpiderTales x = Check.of(text.toString());
        for (int c = 0; c < prices.length; c++) {
            x.attempt(c, 0);
        }
        return x;
    }

    private static void stolenEdges() {
        Check.part("promise 18: IllegalArgumentException: not 0 to 60");
        illegal("stolen", n -> x -> x.stolen(n), -1, 61, LOW, FAR);
        FRESH.illegal("stolen(61)", x -> x.stolen(61));
        FRESH.illegal("stolen(-1)", x -> x.stolen(-1));
        FRESH.answers("stolen(60)", x -> x.stolen(60), 0);
        FRESH.answers("stolen(0)", x -> x.stolen(0), 0);
        RICH.answers("stolen(0)", x -> x.stolen(0), 8);
        RICH.answers("stolen(2)", x -> x.stolen(2), 8);
        RICH.answers("stolen(3)", x -> x.stolen(3), 12);
        RICH.answers("stolen(60)", x -> x.stolen(60), 12);
        SpiderTales x = caught(1, 5, 4, 3, 2, 1, 0);
        for (int days = 0; days <= 6; days++) {
            Check.due("one a day, " + days, x.stolen(days), (1 << days) - 1);
        }
        Check.due("all", x.stolen(60), 63);
        SpiderTales y = caught(30, 0, 0, 0);
        int[] days = {0, 29, 30, 59, 60};
        int[] due = {0, 0, 1, 1, 3};
        for (int i = 0; i < days.length; i++) {
            Check.due("each 30 days, " + days[i], y.stolen(days[i]), due[i]);
        }
    }

    private static void cordEdges() {
        Check.part("promise 19: IllegalArgumentException (behind NoSuchElementException): not 0 to 60");
        noSuch("cord, 0", n -> x -> x.cord(n, 0), -1, 4, LOW, FAR);
        noSuch("cord, 61", n -> x -> x.cord(n, 61), -1, 4, LOW, FAR);
        noSuch("cord, -1", n -> x -> x.cord(n, -1), -1, 4, LOW, FAR);
        int[] days = {0, 1, 10, 11, 12, 60};
        int[] due = {11, 10, 1, 0, 0, 0};
        int[] caughtCord = {8, 11, 8};
        for (int c = 0; c <= 3; c++) {
            int creature = c;
            illegal("cord of " + c, n -> x -> x.cord(creature, n), -1, 61, LOW, FAR);
            for (int i = 0; i < days.length; i++) {
                int many = days[i];
                RICH.answers("cord on " + c + " in " + many, x -> x.cord(creature, many), c == 0 ? due[i] : caughtCord[c - 1]);
            }
        }
        SpiderTales x = Check.of("creature 1 0 0 0 0;trick 0 0 0 0 20 0;bound 0;");
        Scene.repeat(x, 3, 0, 0);
        Check.due("60 in 59", x.cord(0, 59), 1);
        Check.due("60 in 60", x.cord(0, 60), 0);
        Check.due("no cord", Scene.of(1).cord(0, 60), 0);
    }

    private static void whenEdges() {
        Check.part("promise 20, terms 3: in how many DAYS (1 to 60); 0: it is; none");
        noSuch("when", n -> x -> x.when(n), -1, 4, LOW, FAR);
        int[] due = {NONE, NONE, 3, 0};
        for (int c = 0; c < due.length; c++) {
            int creature = c;
            RICH.answers("when(" + c + ")", x -> x.when(creature), due[c]);
        }
        SpiderTales x = caught(30, 3, 2, 1);
        int[] now = {30, 60, NONE};
        for (int c = 0; c < now.length; c++) {
            Check.due("on day 0, " + c, x.when(c), now[c]);
        }
        x.days(20);
        x.days(9);
        int[] later = {1, 31, NONE};
        for (int c = 0; c < later.length; c++) {
            Check.due("on day 29 (1, 31, 61), " + c, x.when(c), later[c]);
        }
        x.days(1);
        int[] then = {0, 30, 60};
        for (int c = 0; c < then.length; c++) {
            Check.due("on day 30, " + c, x.when(c), then[c]);
        }
        Check.due("each day", caught(1, 0).when(0), 1);
    }

    private static void toGuardEdges() {
        Check.part("promise 21: NONE: none; IllegalArgumentException: not 1 to 60");
        illegal("toGuard", n -> x -> x.toGuard(n), -1, 0, 61, LOW, FAR);
        FRESH.illegal("toGuard(0)", x -> x.toGuard(0));
        FRESH.illegal("toGuard(61)", x -> x.toGuard(61));
        FRESH.answers("toGuard(1)", x -> x.toGuard(1), NONE);
        FRESH.answers("toGuard(60)", x -> x.toGuard(60), NONE);
        RICH.answers("toGuard(1)", x -> x.toGuard(1), NONE);
        RICH.answers("toGuard(2)", x -> x.toGuard(2), NONE);
        RICH.answers("toGuard(3)", x -> x.toGuard(3), 1);
        RICH.answers("toGuard(60)", x -> x.toGuard(60), 1);
        Check.due("the rival comes on day 1", caught(1, 5).toGuard(1), 0);
        Check.due("on day 30, in 29", caught(30, 5).toGuard(29), NONE);
        Check.due("on day 30, in 30", caught(30, 5).toGuard(30), 0);
        Check.due("all but the guarded one", caught(1, 7, 9, 9, 8).toGuard(4), 1);
        Check.due("of like ones the least", caught(1, 9, 9).toGuard(60), 0);
        Check.due("no more than without, one of two", caught(1, 9, 9).toGuard(1), NONE);
        Check.due("no more than without, price 0", caught(1, 0).toGuard(60), NONE);
        Check.due("1 more than without", caught(1, 1).toGuard(60), 0);
        // in a day the better one is kept by its guard, and the other one goes
        Check.due("one of two in a day", caught(1, 8, 9).toGuard(1), 1);
        SpiderTales x = caught(1, 8, 9);
        x.days(1);
        Check.due("not one who is stolen", x.toGuard(5), 0);
        x.days(1);
        Check.due("all are stolen", x.toGuard(5), NONE);
        SpiderTales free = Scene.of(1);
        Check.due("none is caught", free.toGuard(60), NONE);
    }

    private static void behindTheLastDay() {
        Check.part("terms 3: if only DAYS go by, from DAY 999 on");
        SpiderTales y = Check.of("creature 1 0 0 7 0;creature 9 0 0 9 0;trick 0 0 0 0 1 0;rival 30;");
        for (int i = 0; i < 49; i++) {
            y.days(20);
        }
        y.days(19);
        y.attempt(0, 0);
        y.attempt(1, 0);
        Check.due("no day goes by", y.days(1), NONE);
        Check.due("in 20 (DAY 1019)", y.stolen(20), 0);
        Check.due("in 21 (DAY 1020)", y.stolen(21), 1);
        Check.due("when", y.when(0), 21);
        Check.due("loot", y.loot(60), 7);
        Check.due("to guard", y.toGuard(21), 0);
        Check.due("cord", y.cord(1, 1), 0);
        Check.due("the day stays", y.count(5), 999);
        SpiderTales z = Check.of("creature 1 0 0 7 0;trick 0 0 0 0 1 0;rival 5;");
        for (int i = 0; i < 49; i++) {
            z.days(20);
        }
        z.days(19);
        Check.due("spiders, too (DAY 1000, 1005)", z.spiders(3, 1, 1), 1);
    }

    // ---- promises 22 to 25

    private static void payersEdges() {
        Check.part("promise 22: IllegalArgumentException: no set of CREATURES, price");
        illegal("creatures", n -> x -> x.payers(n, 0), -1, 16, 17, LOW, FAR, 32);
        illegal("price", n -> x -> x.payers(0, n), -1, 1000, LOW, FAR);
        FRESH.illegal("no creatures", x -> x.payers(1, 0));
        FRESH.illegal("no creatures", x -> x.payers(-1, 0));
        FRESH.illegal("price 1000", x -> x.payers(0, 1000));
        FRESH.answers("no hunters", x -> x.payers(0, 999), 0);
        RICH.answers("all creatures", x -> x.payers(15, 0), 1);
        RICH.answers("no creatures", x -> x.payers(0, 0), 3);
        RICH.answers("100 of 100", x -> x.payers(0, 100), 1);
        RICH.answers("101 of 100", x -> x.payers(0, 101), 0);
        RICH.answers("40 of 40", x -> x.payers(2, 40), 3);
        RICH.answers("41 of 40", x -> x.payers(2, 41), 1);
        RICH.answers("999", x -> x.payers(0, 999), 0);
        SpiderTales x = Check.of("creature 0 0 0 0 0;creature 59 0 0 0 0;creature 60 0 0 0 0;hunter 60 999;hunter 59 999;"
                + "hunter 0 999;hunter 60 998;");
        int[] due = {15, 15, 11, 11, 9, 9, 9, 9};
        for (int set = 0; set < 8; set++) {
            Check.due("set " + set, x.payers(set, 0), due[set]);
        }
        Check.due("998", x.payers(4, 998), 9);
        Check.due("999", x.payers(4, 999), 1);
        SpiderTales six = Check.of("creature 1 0 0 0 0;".repeat(6) + "hunter 1 1;".repeat(6));
        Check.due("six of six", six.payers(63, 1), 63);
        Check.illegal("a seventh", () -> six.payers(64, 1));
    }

    private static void fewEdges() {
        Check.part("promise 23: NONE: none; IllegalArgumentException: no set of CREATURES, not 0 to 5");
        illegal("creatures", n -> x -> x.few(n, 0), -1, 16, LOW, FAR);
        illegal("hunters", n -> x -> x.few(0, n), -1, 6, LOW, FAR);
        FRESH.illegal("no creatures", x -> x.few(1, 0));
        FRESH.illegal("6", x -> x.few(0, 6));
        FRESH.answers("no hunters", x -> x.few(0, 0), 0);
        FRESH.answers("no hunters", x -> x.few(0, 5), 0);
        RICH.answers("few(0, 0)", x -> x.few(0, 0), 101);
        RICH.answers("few(0, 1)", x -> x.few(0, 1), 41);
        RICH.answers("few(0, 2)", x -> x.few(0, 2), 0);
        RICH.answers("few(15, 0)", x -> x.few(15, 0), 101);
        RICH.answers("few(15, 5)", x -> x.few(15, 5), 0);
        Check.due("a purse of 998", Check.of("hunter 0 998;").few(0, 0), 999);
        Check.due("a purse of 999", Check.of("hunter 0 999;").few(0, 0), NONE);
        Check.due("a purse of 999, one may", Check.of("hunter 0 999;").few(0, 1), 0);
        Check.due("a purse of 0", Check.of("hunter 0 0;").few(0, 0), 1);
        Check.due("six of 999, five may", Check.of("hunter 0 999;".repeat(6)).few(0, 5), NONE);
        SpiderTales x = Check.of("creature 5 0 0 0 0;hunter 5 10;hunter 5 20;hunter 4 999;hunter 5 20;hunter 6 30;hunter 7 40;");
        int[] all = {NONE, 41, 31, 21, 21, 11};
        int[] able = {41, 31, 21, 21, 11, 0};
        for (int many = 0; many <= 5; many++) {
            Check.due("of all, " + many, x.few(0, many), all[many]);
            Check.due("of those with skill, " + many, x.few(1, many), able[many]);
        }
    }

    private static void tellersEdges() {
        Check.part("promise 24, terms 4: the fewest TALES that have all PARTS; of as few the least as bits");
        FRESH.answers("no tales", SpiderTales::tellers, 0);
        RICH.answers("one", SpiderTales::tellers, 1);
        Check.due("eight", Check.of("tale 1;tale 2;tale 4;tale 8;tale 16;tale 32;tale 64;tale 128;").tellers(), 255);
        Check.due("the eighth", Check.of("tale 1;".repeat(7) + "tale 1023;").tellers(), 128);
        Check.due("the first of eight", Check.of("tale 1023;".repeat(8)).tellers(), 1);
        Check.due("no parts", Check.of("tale 0;".repeat(8)).tellers(), 0);
        Check.due("1 and 2 (6), not 0 and 3 (9)", Check.of("tale 3;tale 6;tale 9;tale 12;").tellers(), 6);
        Check.due("two that are later, not three", Check.of("tale 1;tale 2;tale 4;tale 5;tale 3;").tellers(), 10);
    }

    private static void borrowedEdges() {
        Check.part("promise 25: NoSuchElementException: no such TALE, what");
        noSuch("borrowed, 0", n -> x -> x.borrowed(n, 0), -1, 2, LOW, FAR);
        noSuch("borrowed 0,", n -> x -> x.borrowed(0, n), -1, 2, LOW, FAR);
        RICH.answers("the first", x -> x.borrowed(0, 0), 0);
        RICH.answers("the first", x -> x.borrowed(0, 1), NONE);
        RICH.answers("the second", x -> x.borrowed(1, 0), 2);
        RICH.answers("the second", x -> x.borrowed(1, 1), 0);
        SpiderTales x = Check.of("tale 512;tale 1;tale 513;tale 1023;tale 1023;tale 0;tale 2;tale 1023;");
        int[] many = {0, 0, 1, 2, 10, 0, 1, 10};
        int[] which = {NONE, NONE, 0, 2, 3, NONE, 3, 3};
        for (int t = 0; t < 8; t++) {
            Check.due("how many, " + t, x.borrowed(t, 0), many[t]);
            Check.due("of which, " + t, x.borrowed(t, 1), which[t]);
        }
        Check.noSuch("the ninth", () -> x.borrowed(8, 0));
    }

    // ---- promises 28 and 29

    private static void howEdges() {
        Check.part("promise 28: NoSuchElementException: also another what; IllegalArgumentException (behind that): not 1 to 4");
        noSuch("how, 1, 0", n -> x -> x.how(n, 1, 0), -1, 4, LOW, FAR);
        noSuch("how, 0, 0", n -> x -> x.how(n, 0, 0), -1, 4);
        noSuch("how 0, 1,", n -> x -> x.how(0, 1, n), -1, 2, LOW, FAR);
        noSuch("how 0, 5,", n -> x -> x.how(0, 5, n), -1, 2);
        illegal("tries", n -> x -> x.how(0, n, 0), -1, 0, 5, LOW, FAR);
        illegal("tries of one who is stolen", n -> x -> x.how(3, n, 1), 0, 5);
        RICH.answers("marks of others", x -> x.how(2, 4, 0), 81);
        RICH.answers("no row", x -> x.how(0, 1, 0), 1);
        RICH.answers("the row", x -> x.how(0, 1, 1), 1);
        String eight = "trick 0 0 0 0 0 0;".repeat(8);
        int[] rows = {8, 64, 512, 4096};
        for (int tries = 1; tries <= 4; tries++) {
            SpiderTales x = Check.of("creature 1 0 0 0 0;" + eight);
            Check.due("all rows of " + tries, x.how(0, tries, 0), rows[tries - 1]);
            Check.due("the first is 0", x.how(0, tries, 1), 0);
            x.mark(0, tries, 0, true);
            Check.due("no row", x.how(0, tries, 0), 0);
            Check.due("no row", x.how(0, tries, 1), NONE);
            Check.due("no tricks", Check.of("creature 1 0 0 0 0;").how(0, tries, 0), 0);
            Check.due("no tricks", Check.of("creature 1 0 0 0 0;").how(0, tries, 1), NONE);
        }
        SpiderTales last = Check.of("creature 1 0 0 0 0;" + "trick 1 0 0 0 0 0;".repeat(7) + "trick 0 0 1 0 0 0;");
        last.mark(0, 1, 0, true);
        Check.due("the last trick", last.how(0, 1, 1), 7);
        Check.due("and any", last.how(0, 4, 1), 7000);
        Check.due("and any", last.how(0, 4, 0), 512);
        SpiderTales sevens = Check.of("creature 1 0 0 0 0;" + "trick 63 0 0 0 0 0;".repeat(4) + "trick 8 0 16 0 0 0;"
                + "trick 4 0 8 0 0 0;trick 2 0 4 0 0 0;trick 0 0 2 0 0 0;");
        sevens.mark(0, 4, 4, true);
        Check.due("one row", sevens.how(0, 4, 0), 1);
        Check.due("7, 6, 5, 4", sevens.how(0, 4, 1), 7654);
        SpiderTales vain = Check.of("creature 1 0 0 0 0;trick 0 0 1 0 0 0;trick 0 0 2 0 0 0;trick 63 0 0 0 0 0;");
        for (int tries = 1; tries <= 4; tries++) {
            Check.due("the first of rows of " + tries, vain.how(0, tries, 1), 0);
        }
        SpiderTales full = Check.of("creature 1 0 0 0 0;trick 0 0 1 0 0 0;trick 0 0 2 0 0 0;");
        for (int step = 1; step <= 4; step++) {
            full.mark(0, step, 0, true);
            full.mark(0, step, 1, false);
        }
        Check.due("eight marks", full.how(0, 4, 0), 1);
        Check.due("eight marks", full.how(0, 4, 1), 0);
    }

    private static void nextEdges() {
        Check.part("promise 29: NoSuchElementException: also another what; IllegalArgumentException (behind that): not 1 to 4");
        noSuch("next, 1, 0", n -> x -> x.next(n, 1, 0), -1, 4, LOW, FAR);
        noSuch("next, 0, 0", n -> x -> x.next(n, 0, 0), -1, 4);
        noSuch("next 0, 1,", n -> x -> x.next(0, 1, n), -1, 2, LOW, FAR);
        noSuch("next 0, 5,", n -> x -> x.next(0, 5, n), -1, 2);
        illegal("tries", n -> x -> x.next(0, n, 0), -1, 0, 5, LOW, FAR);
        illegal("tries of one who is stolen", n -> x -> x.next(3, n, 1), 0, 5);
        RICH.answers("one row", x -> x.next(0, 1, 0), 1);
        RICH.answers("one row", x -> x.next(0, 1, 1), 1);
        // behind each step one belief more may be there
        SpiderTales x = Check.of("creature 1 0 0 0 0;trick 0 0 1 0 0 0;trick 1 0 2 0 0 0;trick 2 0 4 0 0 0;trick 4 0 8 0 0 0;"
                + "trick 63 0 0 0 0 0;");
        for (int tries = 1; tries <= 4; tries++) {
            Check.due("the last step of " + tries, x.next(0, tries, 0), tries);
            Check.due("how many of " + tries, x.next(0, tries, 1), tries + 1);
        }
        SpiderTales like = Check.of("creature 1 0 0 0 0;trick 0 0 0 0 0 0;");
        for (int tries = 1; tries <= 4; tries++) {
            Check.due("of like ones the first", like.next(0, tries, 0), 1);
            Check.due("one", like.next(0, tries, 1), 1);
            Check.due("no tricks", Check.of("creature 1 0 0 0 0;").next(0, tries, 0), NONE);
            Check.due("no tricks", Check.of("creature 1 0 0 0 0;").next(0, tries, 1), 0);
        }
        like.mark(0, 4, 0, true);
        Check.due("no row", like.next(0, 4, 0), NONE);
        Check.due("no row", like.next(0, 4, 1), 0);
        Check.due("rows of three", like.next(0, 3, 0), 1);
        SpiderTales narrow = Check.of("creature 1 0 0 0 0;trick 0 0 1 0 0 0;trick 0 0 2 0 0 0;trick 0 0 4 0 0 0;trick 0 0 0 7 0 0;");
        Check.due("8 of them", narrow.next(0, 3, 1), 8);
        narrow.mark(0, 3, 0, true);
        narrow.mark(0, 3, 1, true);
        narrow.mark(0, 3, 2, true);
        Check.due("three ways to two beliefs", narrow.next(0, 3, 0), 1);
        Check.due("three ways", narrow.next(0, 3, 1), 3);
    }

    // ---- promise 30

    private static void gameEdges() {
        Check.part("promise 30: NoSuchElementException: also no such HUNTER, another what; IllegalArgumentException (behind that)");
        noSuch("game, 1, 0, 0", n -> x -> x.game(n, 1, 0, 0), -1, 2, LOW, FAR);
        noSuch("game 0, n, 0, 0", n -> x -> x.game(0, n, 0, 0), -1, 2, LOW, FAR);
        noSuch("game n, n", n -> x -> x.game(n, n, 0, 0), -1, 2, LOW, FAR);
        noSuch("game 0, 1, n, 0", n -> x -> x.game(0, 1, n, 0), -1, 4, LOW, FAR);
        noSuch("game 0, 0, n, 0", n -> x -> x.game(0, 0, n, 0), -1, 4);
        noSuch("game 0, 1, 0, n", n -> x -> x.game(0, 1, 0, n), -1, 2, LOW, FAR);
        noSuch("game 0, 0, 0, n", n -> x -> x.game(0, 0, 0, n), -1, 2);
        for (int c = 0; c <= 3; c++) {
            for (int what = 0; what <= 1; what++) {
                int creature = c;
                int w = what;
                RICH.illegal("both are one", x -> x.game(0, 0, creature, w));
                RICH.illegal("both are one", x -> x.game(1, 1, creature, w));
            }
        }
        RICH.answers("one has skill enough", x -> x.game(0, 1, 0, 0), 1);
        RICH.answers("it goes", x -> x.game(0, 1, 0, 1), 10);
        RICH.answers("the other way", x -> x.game(1, 0, 0, 1), 1);
        RICH.answers("of one who is stolen, too", x -> x.game(0, 1, 3, 1), 10);
        SpiderTales six = Check.of("creature 1 0 0 9 0;" + "hunter 1 1;".repeat(6));
        Check.due("the fifth and the sixth", six.game(4, 5, 0, 0), 2);
    }

    /** How many rest, and the first: 10 times what comes to rest first behind how many. */
    private static void rests(String call, int[] skills, int strength, int price, int many, int first) {
        SpiderTales x = Check.of("creature " + strength + " 0 0 " + price + " 0;hunter " + skills[0] + " 0;hunter " + skills[1] + " 0;");
        Check.due(call + ": how many", x.game(0, 1, 0, 0), many);
        Check.due(call + ": the first", x.game(0, 1, 0, 1), first);
    }

    private static void gameBySkill() {
        Check.part("terms 4: with SKILL enough, more SKILL, alike");
        rests("both just enough", new int[] {10, 10}, 10, 50, 2, 1);
        rests("one less, the first", new int[] {9, 10}, 10, 50, 1, 1);
        rests("one less, the other", new int[] {10, 9}, 10, 50, 1, 10);
        rests("both too little", new int[] {9, 9}, 10, 50, 1, 0);
        rests("the first has one more", new int[] {11, 10}, 10, 50, 1, 10);
        rests("the other has one more", new int[] {10, 11}, 10, 50, 1, 1);
        rests("strength 0, skill 0", new int[] {0, 0}, 0, 50, 2, 1);
        rests("strength 60, skill 60", new int[] {60, 60}, 60, 99, 2, 1);
        rests("strength 60, skill 59", new int[] {59, 60}, 60, 99, 1, 1);
    }

    private static void gameByPrice() {
        Check.part("terms 4: neither gains more by the other choice");
        // alike: who goes alone gains the price, waiting gains 2, both going gains nothing
        rests("alike, price 0", new int[] {10, 10}, 10, 0, 1, 0);
        rests("alike, price 1", new int[] {10, 10}, 10, 1, 1, 0);
        rests("alike, price 2", new int[] {10, 10}, 10, 2, 3, 0);
        rests("alike, price 3", new int[] {10, 10}, 10, 3, 2, 1);
        rests("alike, price 99", new int[] {10, 10}, 10, 99, 2, 1);
        // the first is better: if both go it gains 10 less than the price
        rests("better, price 1", new int[] {11, 10}, 10, 1, 1, 0);
        rests("better, price 2", new int[] {11, 10}, 10, 2, 3, 0);
        rests("better, price 3", new int[] {11, 10}, 10, 3, 2, 1);
        rests("better, price 11", new int[] {11, 10}, 10, 11, 2, 1);
        rests("better, price 12", new int[] {11, 10}, 10, 12, 2, 1);
        rests("better, price 13", new int[] {11, 10}, 10, 13, 1, 10);
        // the other has too little skill: it waits
        rests("alone, price 1", new int[] {10, 9}, 10, 1, 1, 0);
        rests("alone, price 2", new int[] {10, 9}, 10, 2, 2, 0);
        rests("alone, price 3", new int[] {10, 9}, 10, 3, 1, 10);
    }

    // ---- promise 31

    private static void spidersEdges() {
        Check.part("promise 31: NoSuchElementException: another what; IllegalArgumentException (behind that): many");
        noSuch("spiders 0, 1,", n -> x -> x.spiders(0, 1, n), -1, 3, LOW, FAR);
        noSuch("spiders 0, 31,", n -> x -> x.spiders(0, 31, n), -1, 3);
        for (int what = 0; what <= 2; what++) {
            int w = what;
            illegal("many", n -> x -> x.spiders(0, n, w), -1, 31, LOW, FAR);
            FRESH.illegal("many 31", x -> x.spiders(0, 31, w));
            RICH.answers("no spiders", x -> x.spiders(7, 0, w), 0);
            FRESH.answers("no creatures, no tricks", x -> x.spiders(LOW, 30, w), w == 2 ? 50 : 0);
        }
        // seed 1 draws (2 1) (1 1) (3 2) (2 0) (0 0) (1 2): one try that works; 2 is stolen on day 6, none on day 9
        int[] first = {1, 2, 45};
        // seed 2 draws (0 2) (3 2) (1 2) (0 1) (2 2) (1 0): one try in vain for 20, one that works for 5
        int[] second = {1, 2, 23};
        for (int what = 0; what <= 2; what++) {
            int w = what;
            RICH.answers("seed 1", x -> x.spiders(1, 1, w), first[w]);
            RICH.answers("seed 2", x -> x.spiders(2, 1, w), second[w]);
        }
        SpiderTales x = caught(3, 5, 4, 3);
        Check.due("two of three are stolen", x.spiders(9, 30, 1), 60);
        Check.due("one is caught still", x.spiders(9, 30, 0), 30);
        Check.due("coins as they are", x.spiders(9, 30, 2), 50);
        x.guard(0);
        Check.due("the guard counts", x.spiders(9, 1, 1), 2);
        SpiderTales noTricks = Check.of("creature 1 0 0 0 0;coins 0;");
        Check.due("no tricks", noTricks.spiders(9, 30, 0), 0);
        Check.due("no coins", noTricks.spiders(9, 30, 2), 0);
        SpiderTales nothingToTry = Check.of("creature 0 0 0 0 0;bound 1;");
        Check.due("no tricks, a rule that holds", nothingToTry.spiders(9, 30, 0), 0);
        Check.read(nothingToTry, "creature 1 0 0 0 0;trick 0 0 0 0 1 3;");
        Check.read(nothingToTry, "creature 1 0 0 0 0;");
        Check.due("no tricks any more", nothingToTry.spiders(9, 30, 0), 0);
        Check.due("no tricks any more", nothingToTry.spiders(9, 30, 2), 50);
        SpiderTales noCreatures = Check.of("creature 1 0 0 0 0;trick 0 0 0 0 1 3;");
        Check.read(noCreatures, "trick 0 0 0 0 1 3;");
        Check.due("no creatures any more", noCreatures.spiders(9, 30, 0), 0);
        Check.due("no creatures any more", noCreatures.spiders(9, 30, 2), 50);
        SpiderTales dear = Check.of("creature 60 0 0 0 0;trick 0 0 0 0 1 20;coins 119;");
        Check.due("five of six tries", dear.spiders(FAR, 1, 2), 19);
        SpiderTales just = Check.of("creature 60 0 0 0 0;trick 0 0 0 0 1 20;coins 120;");
        Check.due("six tries", just.spiders(FAR, 1, 2), 0);
        SpiderTales loose = Check.of("creature 1 0 0 0 0;trick 0 0 0 0 4 0;bound cord=19;");
        Check.due("cord is 4, 7, 10, 13, 16, 19: caught at the sixth", loose.spiders(0, 1, 0), 1);
        SpiderTales looser = Check.of("creature 1 0 0 0 0;trick 0 0 0 0 4 0;bound cord=20 or cord=22;");
        Check.due("never 20 or 22", looser.spiders(0, 30, 0), 0);
    }

    /** The draws of a seed, worked out with longs. */
    private static int[] draws(long seed, int many, int n) {
        int[] out = new int[many];
        long now = seed & 0xffffffffL;
        for (int i = 0; i < many; i++) {
            now = (now * 1103515245L + 12345L) % 4294967296L;
            out[i] = (int) (now / 65536 % 32768 % n);
        }
        return out;
    }

    private static void spidersBySeed() {
        Check.part("terms 4: a seed (an int that wraps), a DRAW of n is its bits 16 to 30 MOD n");
        int[] seeds = {0, 1, -1, FAR, LOW, 12345, -1103515245, 65535, 65536, 0x7fff0000, 0x80000000};
        for (int seed : seeds) {
            // six creatures and eight tricks, of which trick 7 alone catches, and the others cost 1 each
            SpiderTales x = Check.of("creature 1 0 0 0 0;".repeat(6) + "trick 0 0 0 0 0 1;".repeat(7) + "trick 0 0 0 0 1 0;");
            int[] forCreature = draws(seed, 360, 6);
            int[] forTrick = draws(seed, 360, 8);
            int all = 0;
            int most = 0;
            for (int spider = 0; spider < 30; spider++) {
                int caught = 0;
                int coins = 50;
                for (int day = 0; day < 6; day++) {
                    int creature = forCreature[12 * spider + 2 * day];
                    int trick = forTrick[12 * spider + 2 * day + 1];
                    if ((caught >> creature & 1) == 0) {
                        coins -= trick == 7 ? 0 : 1;
                        caught |= trick == 7 ? 1 << creature : 0;
                    }
                }
                all += Integer.bitCount(caught);
                most = Math.max(most, coins);
                if (spider == 0 || spider == 29) {
                    Check.due("caught by " + (spider + 1) + ", seed " + seed, x.spiders(seed, spider + 1, 0), all);
                    Check.due("coins of " + (spider + 1) + ", seed " + seed, x.spiders(seed, spider + 1, 2), most);
                }
            }
        }
    }

    // ---- promises 32 to 35

    private static void fooledEdges() {
        Check.part("promise 32: FREE CREATURES at which it WORKS now; no such TRICK");
        noSuch("fooled", n -> x -> x.fooled(n), -1, 3, LOW, FAR);
        int[] due = {1, 1, 0};
        for (int t = 0; t < due.length; t++) {
            int trick = t;
            RICH.answers("fooled(" + t + ")", x -> x.fooled(trick), due[t]);
        }
        SpiderTales x = Check.of("creature 1 63 0 0 0;".repeat(6) + "trick 63 0 0 0 1 20;trick 0 32 0 0 1 0;coins 0;");
        Check.due("all six, without coins", x.fooled(0), 63);
        Check.due("none", x.fooled(1), 0);
        Check.due("no creatures", Check.of("trick 0 0 0 0 1 0;").fooled(0), 0);
    }

    private static void lackingEdges() {
        Check.part("promise 33: no such CREATURE, no such TRICK; whoever it is");
        noSuch("lacking, 0", n -> x -> x.lacking(n, 0), -1, 4, LOW, FAR);
        noSuch("lacking 0,", n -> x -> x.lacking(0, n), -1, 3, LOW, FAR);
        int[][] due = {{0, 0, 4}, {0, 0, 4}, {0, 128, 4}, {0, 0, 4}};
        for (int c = 0; c < due.length; c++) {
            for (int t = 0; t < 3; t++) {
                int creature = c;
                int trick = t;
                RICH.answers("lacking(" + c + ", " + t + ")", x -> x.lacking(creature, trick), due[c][t]);
            }
        }
        SpiderTales none = Check.of("creature 1 0 0 0 0;creature 1 63 0 0 0;trick 63 63 0 0 0 0;trick 0 0 0 0 0 0;");
        Check.due("all of NEEDS", none.lacking(0, 0), 63);
        Check.due("all of BARS", none.lacking(1, 0), 4032);
        Check.due("nothing", none.lacking(0, 1), 0);
        Check.due("nothing", none.lacking(1, 1), 0);
    }

    private static void uselessEdges() {
        Check.part("promise 34: USELESS, as bits");
        FRESH.answers("no tricks", SpiderTales::useless, 0);
        RICH.answers("the last one", SpiderTales::useless, 4);
        Check.due("no creatures", Check.of("trick 0 0 0 0 1 0;".repeat(8)).useless(), 255);
        Check.due("none is free", Scene.repeat(Scene.of(1), 1, 0, 0).useless(), 15);
        Check.due("one never works", Scene.of(1).useless(), 4);
        Check.due("none of eight works", Check.of("creature 1 0 0 0 0;" + "trick 1 0 0 0 1 0;".repeat(8)).useless(), 255);
        Check.due("all of eight work", Check.of("creature 1 0 0 0 0;" + "trick 0 0 0 0 1 0;".repeat(8)).useless(), 0);
        SpiderTales x = Check.of("creature 2 0 0 0 0;trick 0 0 1 0 1 0;trick 1 0 2 0 1 0;trick 2 0 0 0 1 0;");
        Check.due("a row ends where it is caught", x.useless(), 4);
        SpiderTales y = Check.of("creature 3 0 0 0 0;trick 0 0 1 0 1 0;trick 1 0 2 0 1 0;trick 2 0 0 0 1 0;");
        Check.due("the last one of a row", y.useless(), 0);
        SpiderTales help = Check.of("creature 1 0 0 0 9;creature 9 0 0 0 0;trick 0 0 1 0 1 0;trick 1 0 0 0 1 0;");
        Check.due("no help yet", help.useless(), 0);
        help.attempt(0, 0);
        Check.due("HELP as it is", help.useless(), 2);
    }

    private static void firmEdges() {
        Check.part("promise 35: NONE: not FREE; it may have, be without already");
        noSuch("firm", n -> x -> x.firm(n), -1, 4, LOW, FAR);
        for (int c = 1; c <= 3; c++) {
            int creature = c;
            RICH.answers("not free", x -> x.firm(creature), NONE);
        }
        RICH.answers("firm(0)", x -> x.firm(0), 4 + 16 + 32 + 64 * 8);
        Check.due("no tricks, none had", Check.of("creature 1 0 0 0 0;").firm(0), 63);
        Check.due("no tricks, all had", Check.of("creature 1 63 0 0 0;").firm(0), 4032);
        Check.due("all may be", Check.of("creature 1 0 0 0 0;trick 0 0 63 0 0 0;").firm(0), 0);
        Check.due("all may go", Check.of("creature 1 63 0 0 0;trick 0 0 0 63 0 0;").firm(0), 0);
        Check.due("caught by the last one", Check.of("creature 1 0 0 0 0;trick 0 0 1 0 1 0;trick 1 0 2 0 0 0;").firm(0), 62);
    }

    // ---- promises 36 to 40

    private static void lootEdges() {
        Check.part("promise 36: IllegalArgumentException: not 0 to 60");
        illegal("loot", n -> x -> x.loot(n), -1, 61, LOW, FAR);
        FRESH.illegal("loot(61)", x -> x.loot(61));
        FRESH.illegal("loot(-1)", x -> x.loot(-1));
        FRESH.answers("loot(60)", x -> x.loot(60), 0);
        RICH.answers("loot(0)", x -> x.loot(0), 60);
        RICH.answers("loot(2)", x -> x.loot(2), 60);
        RICH.answers("loot(3)", x -> x.loot(3), 70);
        RICH.answers("loot(60)", x -> x.loot(60), 70);
        SpiderTales x = caught(1, 99, 99, 99, 99, 99, 99);
        for (int days = 0; days <= 6; days++) {
            Check.due("in " + days, x.loot(days), 99 * days);
        }
        Check.due("in 60", x.loot(60), 594);
        Check.due("of no price", caught(1, 0).loot(60), 0);
        Check.due("on the sixtieth day", caught(30, 1, 2).loot(60), 3);
        Check.due("on the day ahead", caught(30, 1, 2).loot(59), 2);
    }

    private static void offerEdges() {
        Check.part("promise 37: NONE: none; NoSuchElementException: another what; IllegalArgumentException (behind that)");
        noSuch("offer 0,", n -> x -> x.offer(0, n), -1, 2, LOW, FAR);
        noSuch("offer -1,", n -> x -> x.offer(-1, n), -1, 2);
        noSuch("offer 16,", n -> x -> x.offer(16, n), -1, 2);
        for (int what = 0; what <= 1; what++) {
            int w = what;
            illegal("creatures", n -> x -> x.offer(n, w), -1, 16, LOW, FAR);
            FRESH.illegal("no creatures", x -> x.offer(1, w));
            FRESH.answers("no hunters", x -> x.offer(0, w), NONE);
            RICH.answers("for all", x -> x.offer(15, w), w == 0 ? 100 : 0);
            RICH.answers("for none", x -> x.offer(0, w), w == 0 ? 100 : 0);
            Check.due("none has skill enough", Check.of("creature 60 0 0 0 0;hunter 59 999;").offer(1, w), NONE);
        }
        SpiderTales x = Check.of("creature 60 0 0 0 0;hunter 60 0;hunter 59 999;hunter 0 999;");
        Check.due("a purse of 0", x.offer(1, 0), 0);
        Check.due("a purse of 0", x.offer(1, 1), 0);
        Check.due("a purse of 999", x.offer(0, 0), 999);
        Check.due("of like ones the least", x.offer(0, 1), 1);
        SpiderTales six = Check.of("hunter 0 1;".repeat(5) + "hunter 0 2;");
        Check.due("the sixth", six.offer(0, 1), 5);
        Check.due("the sixth", six.offer(0, 0), 2);
    }

    private static void aloneEdges() {
        Check.part("promise 38: NoSuchElementException: no such TALE");
        noSuch("alone", n -> x -> x.alone(n), -1, 2, LOW, FAR);
        RICH.answers("alone(0)", x -> x.alone(0), 1);
        RICH.answers("alone(1)", x -> x.alone(1), 0);
        SpiderTales x = Check.of("tale 1023;tale 511;tale 0;tale 1;tale 2;tale 4;tale 8;tale 16;");
        int[] due = {512, 0, 0, 0, 0, 0, 0, 0};
        for (int t = 0; t < 8; t++) {
            Check.due("alone(" + t + ")", x.alone(t), due[t]);
        }
        Check.noSuch("the ninth", () -> x.alone(8));
        Check.due("told later counts, too", Check.of("tale 3;tale 1;").alone(0), 2);
        Check.due("one tale", Check.of("tale 1023;").alone(0), 1023);
    }

    private static void likeEdges() {
        Check.part("promise 39: LIKE TALES: how many couples");
        FRESH.answers("no tales", SpiderTales::like, 0);
        RICH.answers("two that are unlike", SpiderTales::like, 0);
        Check.due("one tale", Check.of("tale 5;").like(), 0);
        Check.due("two", Check.of("tale 5;tale 5;").like(), 1);
        Check.due("the first and the eighth", Check.of("tale 9;tale 1;tale 2;tale 3;tale 4;tale 5;tale 6;tale 9;").like(), 1);
        Check.due("eight of no parts", Check.of("tale 0;".repeat(8)).like(), 28);
        Check.due("four couples", Check.of("tale 1;tale 1;tale 2;tale 2;tale 3;tale 3;tale 4;tale 4;").like(), 4);
    }

    private static void nearestEdges() {
        Check.part("promise 40: of like ones the least; NONE: none");
        FRESH.answers("no creatures", SpiderTales::nearest, NONE);
        RICH.answers("the free one", SpiderTales::nearest, 0);
        Check.due("of like ones the least", Scene.of(21, 20, 20).nearest(), 1);
        Check.due("the first", Scene.of(20, 21, 60).nearest(), 0);
        Check.due("the sixth", Scene.of(60, 60, 60, 60, 60, 40).nearest(), 5);
        Check.due("no tricks", Check.of("creature 1 0 0 0 0;").nearest(), NONE);
        Check.due("none has one", Check.of("creature 1 0 0 0 0;trick 1 0 0 0 1 0;").nearest(), NONE);
        Check.due("the last has one", Check.of("creature 1 0 0 0 0;creature 60 1 0 0 0;trick 1 0 0 0 1 0;").nearest(), 1);
        Check.due("none is free", Scene.repeat(Scene.of(1), 1, 0, 0).nearest(), NONE);
        SpiderTales x = Scene.of(1, 60, 40);
        x.attempt(0, 0);
        Check.due("not the one who is caught", x.nearest(), 2);
    }

    private static void withTheFirstGuarded() {
        Check.part("questions while CREATURE 0 is GUARDED");
        SpiderTales x = Scene.of(1, 60);
        x.attempt(0, 0);
        x.guard(0);
        Check.due("guarded", x.count(9), 0);
        Check.due("free", x.count(6), 2);
        Check.due("caught", x.count(7), 1);
        Check.due("fooled", x.fooled(0), 2);
        Check.due("useless", x.useless(), 4);
        Check.due("nearest", x.nearest(), 1);
        Check.due("order", x.order(-1), 3);
        Check.due("order", x.order(0), 1);
        Check.due("to guard", x.toGuard(60), NONE);
        Check.due("stolen", x.stolen(60), 0);
        Check.due("loot", x.loot(60), 0);
        Check.due("spiders", x.spiders(1, 1, 1), 0);
    }
}
