/** Edges of what acts, marks and images do: promises 1, 8 to 13, 26, 27, 41 and 42, and the terms behind them. */
public final class ActEdges {
    private static final int NONE = SpiderTales.NONE;
    private static final int FAR = Integer.MAX_VALUE;
    private static final int LOW = Integer.MIN_VALUE;
    private static final int OF_ACTS = 1;
    private static final int OF_MARKS = 2;

    private static final Quiet RICH = new Quiet(Scene::richWithTape);
    private static final Quiet FRESH = new Quiet(SpiderTales::new);

    public static void main(String[] args) {
        newObject();
        theScene();
        attemptThatThrows();
        attemptRefused();
        coinsForATry();
        needsAndBars();
        givesAndTakes();
        cordOnIt();
        cordAndStrength();
        helpThatThereIs();
        boundGivesMoreThanNone();
        wary();
        ints();
        values();
        daysRefused();
        daysToTheLast();
        cordInADay();
        rivalComes();
        rivalChooses();
        guardEdges();
        giveEdges();
        tellEdges();
        undoEdges();
        actsThatAreKept();
        markEdges();
        forgetEdges();
        imageEdges();
        restoreEdges();
        callsToTheLast();
        Check.end("ActEdges");
    }

    private static void newObject() {
        Check.part("promise 1: 50 COINS, no CREATURES");
        Check.same("as with an empty text", Look.whole(new SpiderTales()), Look.whole(Check.of("")));
        Check.due("coins", new SpiderTales().count(4), 50);
        FRESH.noSuch("attempt(0, 0)", x -> x.attempt(0, 0));
        FRESH.noSuch("guard(0)", x -> x.guard(0) ? 1 : 0);
        FRESH.noSuch("tell(0, 0, true)", x -> x.tell(0, 0, true));
        FRESH.noSuch("mark(0, 1, 0, true)", x -> x.mark(0, 1, 0, true));
        FRESH.answers("undo()", SpiderTales::undo, NONE);
        FRESH.answers("restore()", x -> x.restore() ? 1 : 0, 0);
        SpiderTales x = new SpiderTales();
        Check.due("coins are given", x.give(99), 149);
        Check.due("days go by", x.days(1), 1);
        x.image();
        Check.due("and undone", x.undo(), 1);
        Check.due("an image", x.restore(), true);
        Check.due("acts", x.count(11), 2);
    }

    private static void theScene() {
        Check.part("the scene of these tests");
        SpiderTales x = Scene.richWithTape();
        int[] due = {4, 3, 2, 2, 48, 3, 1, 6, 8, 1, 3, 7, 3, 40, 1, 2, 1};
        for (int what = 0; what < due.length; what++) {
            Check.due("count(" + what + ")", x.count(what), due[what]);
        }
        Check.due("cord on 0", x.creature(0, 5), 11);
        Check.due("a fault", x.fault(), 11);
    }

    // ---- promise 8

    private static void attemptThatThrows() {
        Check.part("promise 8: no such CREATURE, no such TRICK");
        int[] creatures = {-1, 4, LOW, FAR};
        for (int c : creatures) {
            RICH.noSuch("attempt(" + c + ", 0)", x -> x.attempt(c, 0));
        }
        int[] tricks = {-1, 3, LOW, FAR};
        for (int t : tricks) {
            RICH.noSuch("attempt(0, " + t + ")", x -> x.attempt(0, t));
            RICH.noSuch("one who is not free, " + t, x -> x.attempt(3, t));
        }
    }

    private static void attemptRefused() {
        Check.part("promise 8: NONE (STATUS 1): not FREE, too few COINS");
        for (int t = 0; t < 3; t++) {
            int trick = t;
            RICH.refuses("guarded", x -> x.attempt(1, trick), NONE, OF_ACTS);
            RICH.refuses("caught", x -> x.attempt(2, trick), NONE, OF_ACTS);
            RICH.refuses("stolen", x -> x.attempt(3, trick), NONE, OF_ACTS);
        }
        Quiet poor = new Quiet(() -> {
            SpiderTales x = Scene.richWithTape();
            x.attempt(0, 2);
            x.attempt(0, 2);
            return x;
        });
        poor.refuses("8 coins for 20", x -> x.attempt(0, 2), NONE, OF_ACTS);
    }

    private static void coinsForATry() {
        Check.part("terms 2: COINS that are as many as its COST, or more");
        String text = "creature 60 0 0 0 0;trick 0 0 0 0 1 20;trick 1 0 0 0 1 20;trick 0 0 0 0 1 0;coins ";
        Check.due("20 of 19", Check.of(text + "19;").attempt(0, 0), NONE);
        Check.due("20 of 0", Check.of(text + "0;").attempt(0, 0), NONE);
        SpiderTales x = Check.of(text + "20;");
        Check.due("20 of 20", x.attempt(0, 0), 1);
        Check.due("coins", x.count(4), 0);
        Check.due("a try for nothing", x.attempt(0, 2), 1);
        SpiderTales y = Check.of(text + "21;");
        Check.due("20 of 21, in vain", y.attempt(0, 1), 0);
        Check.due("one that doesn't work costs as much", y.count(4), 1);
        Check.due("too few", y.attempt(0, 1), NONE);
        Check.due("and nobody is warier", y.creature(0, 2), 1);
        Check.due("STATUS 1", y.count(15), 1);
    }

    private static void needsAndBars() {
        Check.part("terms 2: if the CREATURE has all of NEEDS, and none of BARS");
        for (int belief = 0; belief < 6; belief++) {
            int bit = 1 << belief;
            Check.due("all of 63", tried(63, 63, 0), 1);
            Check.due("one is lacking", tried(63 & ~bit, 63, 0), 0);
            Check.due("one is needed, and had", tried(bit, bit, 0), 1);
            Check.due("one is needed, all others are had", tried(63 & ~bit, bit, 0), 0);
            Check.due("one bars, all others are had", tried(63 & ~bit, 0, bit), 1);
            Check.due("one bars", tried(bit, 0, bit), 0);
            Check.due("all bar, one is had", tried(bit, 0, 63), 0);
            Check.due("needed and barred", tried(bit, bit, bit), 0);
            Check.due("needed and barred", tried(0, bit, bit), 0);
        }
        Check.due("nothing is needed of none", tried(0, 0, 0), 1);
        Check.due("nothing is needed of all", tried(63, 0, 0), 1);
        Check.due("all bar, none is had", tried(0, 0, 63), 1);
    }

    private static int tried(int beliefs, int needs, int bars) {
        SpiderTales x = Check.of("creature 60 " + beliefs + " 0 0 0;trick " + needs + " " + bars + " 0 0 1 1;");
        int answer = x.attempt(0, 0);
        Check.due("wary", x.creature(0, 2), answer == 1 ? 0 : 1);
        Check.due("cord", x.creature(0, 5), answer == 1 ? 1 : 0);
        Check.due("beliefs", x.creature(0, 1), beliefs);
        Check.due("coins", x.count(4), 49);
        Check.due("acts", x.count(11), 1);
        return answer;
    }

    private static void givesAndTakes() {
        Check.part("terms 2: it has GIVES, too, and none of TAKES any more (what is both it hasn't)");
        int[][] due = {{0, 63, 0, 63}, {63, 0, 63, 0}, {0, 63, 63, 0}, {63, 63, 63, 0}, {32, 1, 32, 1}, {21, 42, 0, 63},
            {21, 42, 1, 62}, {0, 0, 0, 0}, {63, 0, 0, 63}, {9, 0, 54, 9}, {0, 36, 32, 4}};
        for (int[] row : due) {
            SpiderTales x = Check.of("creature 60 " + row[0] + " 0 0 0;trick 0 0 " + row[1] + " " + row[2] + " 0 0;");
            x.attempt(0, 0);
            Check.due(row[0] + " gives " + row[1] + " takes " + row[2], x.creature(0, 1), row[3]);
        }
        SpiderTales y = Check.of("creature 60 5 0 0 0;trick 2 0 63 5 9 0;");
        Check.due("it doesn't work", y.attempt(0, 0), 0);
        Check.due("beliefs stay", y.creature(0, 1), 5);
    }

    private static void cordOnIt() {
        Check.part("terms 2: CORD on it is more by CORD of the TRICK (60 at most)");
        String text = "creature 60 0 0 0 0;trick 0 0 0 0 20 0;trick 0 0 0 0 19 0;trick 0 0 0 0 1 0;trick 0 0 0 0 2 0;bound 0;";
        SpiderTales x = Scene.repeat(Check.of(text), 2, 0, 0);
        Check.due("40", x.creature(0, 5), 40);
        x.attempt(0, 1);
        Check.due("59", x.creature(0, 5), 59);
        x.attempt(0, 2);
        Check.due("60", x.creature(0, 5), 60);
        x.attempt(0, 2);
        Check.due("still 60", x.creature(0, 5), 60);
        x.undo();
        x.undo();
        x.attempt(0, 3);
        Check.due("59 and 2", x.creature(0, 5), 60);
        Check.due("60 and 20", Scene.repeat(Check.of(text), 4, 0, 0).creature(0, 5), 60);
    }

    private static void cordAndStrength() {
        Check.part("terms 2: without it, if CORD is STRENGTH or more, and isn't 0");
        Check.due("strength 0, cord 0", Scene.of(0).attempt(0, 3), 1);
        Check.due("strength 0, cord 1", Scene.of(0).attempt(0, 0), 2);
        Check.due("strength 1, cord 0", Scene.of(1).attempt(0, 3), 1);
        Check.due("strength 1, cord 1", Scene.of(1).attempt(0, 0), 2);
        Check.due("strength 2, cord 1", Scene.of(2).attempt(0, 0), 1);
        Check.due("strength 19, cord 20", Scene.of(19).attempt(0, 1), 2);
        Check.due("strength 20, cord 20", Scene.of(20).attempt(0, 1), 2);
        Check.due("strength 21, cord 20", Scene.of(21).attempt(0, 1), 1);
        SpiderTales x = Scene.repeat(Scene.of(60), 59, 0, 0);
        Check.due("strength 60, cord 59", x.creature(0, 6), 0);
        Check.due("a try that lays none", x.attempt(0, 3), 1);
        Check.due("strength 60, cord 60", x.attempt(0, 0), 2);
        Check.due("cord stays on it", x.creature(0, 5), 60);
        SpiderTales y = Scene.repeat(Scene.of(60), 59, 0, 0);
        Check.due("it doesn't work", y.attempt(0, 2), 0);
        Check.due("no cord lies on it", y.creature(0, 5), 0);
    }

    private static void helpThatThereIs() {
        Check.part("terms 2: HELP of all who are CAUGHT; if CORD of the TRICK isn't 0");
        SpiderTales x = Check.of("creature 1 0 0 1 9;creature 1 0 0 2 9;creature 1 0 0 3 9;creature 1 0 0 4 9;"
                + "creature 1 0 0 5 9;creature 60 0 0 6 9;trick 0 0 0 0 1 0;trick 0 0 0 0 0 0;rival 1;");
        Check.due("none is caught", x.count(10), 0);
        for (int c = 0; c < 5; c++) {
            Check.due("caught", x.attempt(c, 0), 2);
            Check.due("help", x.count(10), 9 * (c + 1));
        }
        Check.due("no cord, no help", x.attempt(5, 1), 1);
        Check.due("no cord, no help", x.creature(5, 5), 0);
        x.attempt(5, 0);
        Check.due("1 and 45", x.creature(5, 5), 46);
        x.days(1);
        Check.due("one is stolen", x.count(8), 16);
        Check.due("help of four", x.count(10), 36);
        Check.due("45 and 37", x.attempt(5, 0), 2);
        Check.due("60 at most", x.creature(5, 5), 60);
        Check.due("its own help, too", x.count(10), 45);
    }

    private static void boundGivesMoreThanNone() {
        Check.part("terms 2: if BOUND gives more than 0");
        Check.due("1", bound("1"), 2);
        Check.due("0", bound("0"), 1);
        Check.due("-1", bound("0-1"), 1);
        Check.due("the greatest", bound("2048*1024*1024-1"), 2);
        Check.due("the least", bound("2048*1024*1024"), 1);
        Check.due("strength doesn't count", bound("cord=0 and strength=60"), 2);
        SpiderTales x = Check.of("creature 1 0 0 0 0;trick 0 0 0 0 20 0;trick 32 0 0 0 0 0;bound 0;");
        Check.due("cord alone doesn't bind", x.attempt(0, 0), 1);
        SpiderTales y = Check.of("creature 1 0 0 0 0;trick 32 0 0 0 0 0;bound 1;");
        Check.due("it binds by a try that works alone", y.attempt(0, 0), 0);
        SpiderTales z = Check.of("creature 1 0 0 0 0;bound 1;");
        z.days(1);
        z.give(1);
        z.tell(0, 0, true);
        Check.due("no other act binds", z.count(6), 1);
        SpiderTales w = Check.of("creature 1 0 0 0 9;creature 1 0 0 0 7;trick 0 0 0 0 1 0;bound help+1;");
        Check.due("caught", w.attempt(0, 0), 2);
        Check.due("caught", w.attempt(1, 0), 2);
        SpiderTales v = Check.of("creature 1 0 0 0 9;creature 1 0 0 0 7;trick 0 0 0 0 1 0;bound help=0;");
        Check.due("its own help isn't there", v.attempt(0, 0), 2);
        Check.due("that of others is", v.attempt(1, 0), 1);
    }

    private static int bound(String rule) {
        return Check.of("creature 60 0 0 0 0;trick 0 0 0 0 0 0;bound " + rule + ";").attempt(0, 0);
    }

    private static void wary() {
        Check.part("terms 2: the CREATURE is 1 more WARY (9 at most), and no CORD lies on it");
        SpiderTales x = Check.of("creature 60 0 0 0 0;creature 60 0 8 0 0;trick 32 0 0 0 1 0;trick 0 0 0 0 1 0;");
        for (int i = 1; i <= 11; i++) {
            x.attempt(0, 1);
            Check.due("in vain", x.attempt(0, 0), 0);
            Check.due("wary", x.creature(0, 2), Math.min(9, i));
            Check.due("cord", x.creature(0, 5), 0);
        }
        Check.due("the other one", x.creature(1, 2), 8);
        x.attempt(1, 0);
        Check.due("8 and 1", x.creature(1, 2), 9);
        x.attempt(1, 0);
        Check.due("9 and 1", x.creature(1, 2), 9);
        Check.due("acts count all the same", x.count(11), 24);
        x.undo();
        x.undo();
        Check.due("undone", x.creature(1, 2), 8);
    }

    private static void ints() {
        Check.part("terms 1: ints that wrap, / cut down to 0, by 0 gives 0; tests, not, and, or are 1 or 0");
        String[] holds = {
            "2048*1024*1024-1+1=2048*1024*1024", "2048*1024*1024-1+1<0", "0<2048*1024*1024-1", "0-2048*1024*1024<0",
            "2048*1024*2048=0", "2048*1024*1024/(0-1)=2048*1024*1024", "2048*1024*1024*(0-1)<0",
            "2048*1024*1024-1+(2048*1024*1024-1)=0-2", "2048*1024*1024+2048*1024*1024=0",
            "(2048*1024*1024-1)*(2048*1024*1024-1)=1", "9999*9999*9999=0-1027*1000*1000-349*1000-969",
            "7/2=3", "(0-7)/2=0-3", "7/(0-2)=0-3", "(0-7)/(0-2)=3", "1/2=0", "(0-1)/2=0", "1/(0-2)=0", "6/3=2",
            "5/0=0", "0/0=0", "(0-5)/0=0", "2048*1024*1024/0=0", "1/(1/2)=0", "5-5/0=5",
            "(1<1)=0", "(1<2)=1", "(2<1)=0", "(0-1<0)=1", "(1=1)=1", "(1=2)=0", "(5<7)+(7=7)=2",
            "(not 0)=1", "(not 1)=0", "(not 7)=0", "(not (0-7))=0", "(not not 7)=1",
            "(7 and 9)=1", "(7 and 0)=0", "(0 and 7)=0", "(0 and 0)=0", "((0-7) and (0-9))=1",
            "(7 or 9)=1", "(7 or 0)=1", "(0 or 9)=1", "(0 or 0)=0", "((0-7) or 0)=1", "(2 and 4)=1", "(1 or 2)=1",
            "8-4-2=2", "8-4+2=6", "8/4/2=1", "8/4*2=4", "2*3/4=1", "3/4*2=0", "2-3*4=0-10", "1 or 0 and 0", "not 0 and 1",
            "not 1 or 1", "not 1=0"
        };
        for (String rule : holds) {
            Check.due(rule, bound(rule), 2);
            Check.due("not (" + rule + ")", bound("not (" + rule + ")"), 1);
        }
    }

    private static void values() {
        Check.part("terms 1: VALUES of a CREATURE, the least and the greatest");
        String least = "creature 0 0 0 0 0;trick 0 0 0 0 0 0;bound ";
        String[] none = {"cord=0", "strength=0", "wary=0", "beliefs=0", "price=0", "help=0"};
        for (String rule : none) {
            Check.due(rule, Check.of(least + rule + ";").attempt(0, 0), 2);
        }
        String greatest = "creature 60 0 9 99 9;creature 0 0 0 1 9;creature 0 0 0 1 9;creature 0 0 0 1 9;creature 0 0 0 1 9;"
                + "creature 0 0 0 1 9;trick 0 0 63 0 20 0;bound price=1 or price=99 and ";
        String[] most = {"cord=60", "strength=60", "wary=9", "beliefs=6", "price=99", "help=45"};
        for (String rule : most) {
            SpiderTales x = Check.of(greatest + rule + ";");
            for (int c = 1; c <= 5; c++) {
                Check.due("caught", x.attempt(c, 0), 2);
            }
            Check.due(rule, x.attempt(0, 0), 2);
        }
        SpiderTales y = Check.of("creature 7 3 4 5 6;trick 0 0 8 1 2 0;"
                + "bound cord=2 and strength=7 and wary=4 and beliefs=2 and price=5 and help=0;");
        Check.due("each its own", y.attempt(0, 0), 2);
    }

    // ---- promise 9

    private static void daysRefused() {
        Check.part("promise 9: NONE (STATUS 1): not 1 to 20");
        int[] wrong = {0, 21, -1, 22, 1000, FAR, LOW};
        for (int many : wrong) {
            RICH.refuses("days(" + many + ")", x -> x.days(many), NONE, OF_ACTS);
            FRESH.refuses("days(" + many + ")", x -> x.days(many), NONE, OF_ACTS);
        }
        Check.due("days(1)", new SpiderTales().days(1), 1);
        Check.due("days(20)", new SpiderTales().days(20), 20);
    }

    private static SpiderTales onDay(int day) {
        SpiderTales x = Check.of("creature 60 0 0 0 0;trick 0 0 0 0 20 0;");
        x.attempt(0, 0);
        for (int i = 0; i < day / 20; i++) {
            x.days(20);
        }
        x.days(day % 20);
        return x;
    }

    private static void daysToTheLast() {
        Check.part("promise 9: it would be above 999");
        for (int many = 1; many <= 20; many++) {
            Check.due("to 999", onDay(999 - many).days(many), 999);
        }
        new Quiet(() -> onDay(999)).refuses("999 and 1", x -> x.days(1), NONE, OF_ACTS);
        new Quiet(() -> onDay(999)).refuses("999 and 20", x -> x.days(20), NONE, OF_ACTS);
        new Quiet(() -> onDay(998)).refuses("998 and 2", x -> x.days(2), NONE, OF_ACTS);
        new Quiet(() -> onDay(981)).refuses("981 and 19", x -> x.days(19), NONE, OF_ACTS);
        new Quiet(() -> onDay(981)).refuses("981 and FAR", x -> x.days(FAR), NONE, OF_ACTS);
        SpiderTales x = onDay(999);
        x.undo();
        Check.due("undone", x.count(5), 980);
        Check.due("again", x.days(19), 999);
    }

    private static void cordInADay() {
        Check.part("terms 2: CORD on each that is FREE is 1 less (not below 0)");
        SpiderTales x = Scene.of(60, 60, 60, 1);
        x.attempt(0, 0);
        x.attempt(1, 0);
        x.attempt(1, 0);
        x.attempt(3, 0);
        x.days(1);
        int[] due = {0, 1, 0, 1};
        for (int c = 0; c < due.length; c++) {
            Check.due("cord on " + c, x.creature(c, 5), due[c]);
        }
        x.days(1);
        Check.due("1 less", x.creature(1, 5), 0);
        Check.due("not below 0", x.creature(0, 5), 0);
        Check.due("one who is caught", x.creature(3, 5), 1);
        SpiderTales y = Scene.repeat(Scene.of(60), 21, 0, 0);
        y.days(20);
        Check.due("21 less 20", y.creature(0, 5), 1);
        SpiderTales z = Check.of("creature 5 0 0 0 0;trick 0 0 0 0 9 0;rival 1;");
        z.attempt(0, 0);
        z.days(20);
        Check.due("one who is stolen", z.creature(0, 5), 9);
    }

    private static void rivalComes() {
        Check.part("terms 2: if THE RIVAL comes (the DAY and 1 MOD that is 0)");
        for (int each = 1; each <= 30; each++) {
            SpiderTales x = Check.of("creature 1 0 0 0 0;creature 1 0 0 0 0;trick 0 0 0 0 1 0;rival " + each + ";");
            x.attempt(0, 0);
            x.attempt(1, 0);
            for (int day = 1; day <= 2 * each; day++) {
                x.days(1);
                Check.due("rival " + each + ", day " + day, x.count(8), day < each ? 0 : day < 2 * each ? 1 : 3);
            }
        }
        SpiderTales y = Check.of("creature 1 0 0 0 0;creature 1 0 0 0 0;trick 0 0 0 0 1 0;rival 10;");
        y.attempt(0, 0);
        y.attempt(1, 0);
        y.days(20);
        Check.due("twice in twenty days", y.count(8), 3);
        SpiderTales z = Check.of("creature 1 0 0 0 0;trick 0 0 0 0 1 0;rival 10;");
        z.days(10);
        z.attempt(0, 0);
        z.days(9);
        Check.due("caught on day 10, on day 19", z.count(8), 0);
        z.days(1);
        Check.due("on day 20", z.count(8), 1);
    }

    private static void rivalChooses() {
        Check.part("terms 2: CAUGHT, and not GUARDED, with the greatest PRICE (of like ones the least)");
        SpiderTales x = Check.of("creature 1 0 0 98 0;creature 1 0 0 99 0;creature 1 0 0 99 0;creature 1 0 0 0 0;"
                + "creature 1 0 0 99 0;trick 0 0 0 0 1 0;rival 1;");
        for (int c = 0; c < 4; c++) {
            x.attempt(c, 0);
        }
        x.guard(1);
        int[] due = {4, 5, 13, 13};
        for (int day = 0; day < due.length; day++) {
            x.days(1);
            Check.due("stolen on day " + day, x.count(8), due[day]);
        }
        Check.due("the guard stays", x.count(9), 1);
        Check.due("a free one is left", x.count(6), 16);
        SpiderTales y = Check.of("creature 1 0 0 0 0;trick 0 0 0 0 1 0;rival 1;");
        Check.due("none is caught", y.days(20), 20);
        Check.due("none is stolen", y.count(8), 0);
    }

    // ---- promise 10

    private static void guardEdges() {
        Check.part("promise 10: false (STATUS 1): not CAUGHT, GUARDED already");
        RICH.refuses("free", x -> x.guard(0) ? 1 : 0, 0, OF_ACTS);
        RICH.refuses("guarded already", x -> x.guard(1) ? 1 : 0, 0, OF_ACTS);
        RICH.refuses("stolen", x -> x.guard(3) ? 1 : 0, 0, OF_ACTS);
        int[] none = {-1, 4, LOW, FAR};
        for (int c : none) {
            RICH.noSuch("guard(" + c + ")", x -> x.guard(c) ? 1 : 0);
        }
        SpiderTales x = Scene.richWithTape();
        Check.due("caught", x.guard(2), true);
        Check.due("the other one is left", x.count(9), 2);
        Check.due("an act", x.count(11), 8);
        Check.due("back", x.guard(1), true);
        x.undo();
        Check.due("undone", x.count(9), 2);
        x.undo();
        Check.due("undone", x.count(9), 1);
        x.undo();
        x.undo();
        x.undo();
        Check.due("undone, none", x.count(9), NONE);
        Check.due("STATUS stays", x.count(15), 2);
        SpiderTales y = Scene.of(1);
        Check.due("the first one, free", y.guard(0), false);
        y.attempt(0, 0);
        Check.due("the first one", y.guard(0), true);
    }

    // ---- promise 11

    private static SpiderTales withCoins(int coins) {
        return Check.of("creature 60 0 0 0 0;trick 0 0 0 0 20 0;coins " + coins + ";");
    }

    private static void giveEdges() {
        Check.part("promise 11: NONE (STATUS 1): not 1 to 99; 999 at most");
        int[] wrong = {0, 100, -1, 101, FAR, LOW};
        for (int coins : wrong) {
            RICH.refuses("give(" + coins + ")", x -> x.give(coins), NONE, OF_ACTS);
            new Quiet(() -> withCoins(999)).refuses("give(" + coins + ")", x -> x.give(coins), NONE, OF_ACTS);
        }
        Check.due("give(1)", withCoins(0).give(1), 1);
        Check.due("give(99)", withCoins(0).give(99), 99);
        Check.due("998 and 1", withCoins(998).give(1), 999);
        Check.due("998 and 2", withCoins(998).give(2), 999);
        Check.due("900 and 99", withCoins(900).give(99), 999);
        Check.due("901 and 99", withCoins(901).give(99), 999);
        SpiderTales x = withCoins(999);
        Check.due("999 and 99", x.give(99), 999);
        Check.due("an act", x.count(11), 1);
        Check.due("not refused", x.count(15), 0);
        x.give(1);
        Check.due("undone", x.undo(), 1);
        Check.due("coins", x.count(4), 999);
        SpiderTales y = withCoins(990);
        y.give(99);
        y.undo();
        Check.due("undone to 990", y.count(4), 990);
    }

    // ---- promise 12

    private static void tellEdges() {
        Check.part("promise 12: NONE (STATUS 1): not FREE, it is so already; NoSuchElementException ahead");
        for (int b = 0; b < 6; b++) {
            int belief = b;
            boolean had = (9 >> b & 1) != 0;
            RICH.refuses("so already " + b, x -> x.tell(0, belief, had), NONE, OF_ACTS);
            Check.due("told " + b, Scene.rich().tell(0, b, !had), 9 ^ 1 << b);
            for (int c = 1; c <= 3; c++) {
                int creature = c;
                RICH.refuses("not free, true", x -> x.tell(creature, belief, true), NONE, OF_ACTS);
                RICH.refuses("not free, false", x -> x.tell(creature, belief, false), NONE, OF_ACTS);
            }
        }
        int[] beliefs = {-1, 6, LOW, FAR, 32};
        for (int belief : beliefs) {
            RICH.noSuch("belief " + belief, x -> x.tell(0, belief, true));
            RICH.noSuch("belief " + belief, x -> x.tell(0, belief, false));
            RICH.noSuch("not free, belief " + belief, x -> x.tell(3, belief, true));
        }
        int[] creatures = {-1, 4, LOW, FAR};
        for (int c : creatures) {
            RICH.noSuch("creature " + c, x -> x.tell(c, 0, true));
        }
        SpiderTales x = Scene.of(60);
        for (int b = 0; b < 6; b++) {
            Check.due("all of them", x.tell(0, b, true), (2 << b) - 1);
        }
        for (int b = 0; b < 6; b++) {
            Check.due("none of them", x.tell(0, b, false), 63 & ~((2 << b) - 1));
        }
        Check.due("acts", x.count(11), 12);
    }

    // ---- promise 13

    private static void undoEdges() {
        Check.part("promise 13: NONE: there is none");
        FRESH.answers("undo()", SpiderTales::undo, NONE);
        SpiderTales x = Scene.richWithTape();
        for (int left = 6; left >= 0; left--) {
            Check.due("undo()", x.undo(), left);
        }
        Check.due("none", x.undo(), NONE);
        Check.due("none again", x.undo(), NONE);
        int[] due = {4, 3, 2, 2, 60, 0, 15, 0, 0, NONE, 0, 0, 3, 40, 1, 2, 1};
        for (int what = 0; what < due.length; what++) {
            Check.due("count(" + what + ")", x.count(what), due[what]);
        }
        Check.due("fault() stays", x.fault(), 11);
        Check.due("the image stays", x.restore(), true);
        Check.due("acts of the image", x.count(11), 3);
    }

    private static void actsThatAreKept() {
        Check.part("terms 2: ACTS (at most 40 are kept, the latest ones)");
        int[] many = {1, 39, 40, 41, 42, 80, 81, 130};
        for (int made : many) {
            SpiderTales x = Check.of("coins 0;");
            for (int i = 1; i <= made; i++) {
                x.give(i % 5 + 1);
            }
            Check.due("acts", x.count(11), Math.min(40, made));
            int coins = x.count(4);
            for (int i = made; i > Math.max(0, made - 40); i--) {
                coins -= i % 5 + 1;
                x.undo();
                Check.due("coins behind " + i + " of " + made, x.count(4), coins);
            }
            Check.due("no more", x.undo(), NONE);
            Check.due("coins stay", x.count(4), coins);
            x.give(9);
            Check.due("a new one", x.count(11), 1);
            Check.due("undone", x.undo(), 0);
        }
        Quiet full = new Quiet(() -> {
            SpiderTales x = Check.of("coins 0;");
            for (int i = 1; i <= 41; i++) {
                x.give(i);
            }
            return x;
        });
        full.refuses("a refused act drops none", x -> x.give(0), NONE, OF_ACTS);
    }

    // ---- promises 26 and 27

    private static SpiderTales withMarks(int many) {
        SpiderTales x = Scene.of(60, 60);
        for (int i = 1; i <= many; i++) {
            Check.due("mark", x.mark(1, 4, 5, true), i);
        }
        return x;
    }

    private static void markEdges() {
        Check.part("promise 26: NONE (STATUS 2): there are 8, not 1 to 4; NoSuchElementException ahead");
        Check.due("the eighth", withMarks(7).mark(0, 1, 0, true), 8);
        Quiet full = new Quiet(() -> withMarks(8));
        full.refuses("the ninth", x -> x.mark(0, 1, 0, true), NONE, OF_MARKS);
        full.refuses("the ninth, as another", x -> x.mark(1, 4, 5, true), NONE, OF_MARKS);
        full.refuses("the ninth, step 5", x -> x.mark(0, 5, 0, true), NONE, OF_MARKS);
        full.noSuch("the ninth, no such creature", x -> x.mark(2, 1, 0, true));
        full.noSuch("the ninth, no such belief", x -> x.mark(0, 1, 6, true));
        int[] steps = {0, 5, -1, LOW, FAR};
        for (int step : steps) {
            RICH.refuses("step " + step, x -> x.mark(0, step, 0, true), NONE, OF_MARKS);
            RICH.noSuch("step " + step + ", creature 4", x -> x.mark(4, step, 0, true));
            RICH.noSuch("step " + step + ", belief 6", x -> x.mark(0, step, 6, true));
        }
        int[] creatures = {-1, 4, LOW, FAR};
        for (int c : creatures) {
            RICH.noSuch("creature " + c, x -> x.mark(c, 1, 0, true));
        }
        int[] beliefs = {-1, 6, LOW, FAR};
        for (int b : beliefs) {
            RICH.noSuch("belief " + b, x -> x.mark(0, 1, b, true));
        }
        for (int step = 1; step <= 4; step++) {
            for (int belief = 0; belief < 6; belief++) {
                SpiderTales x = Check.of("creature 1 0 0 0 0;trick 0 0 " + (1 << belief) + " 0 0 0;trick 0 0 0 0 0 0;");
                Check.due("mark", x.mark(0, step, belief, true), 1);
                Check.due("step " + step + " belief " + belief, x.how(0, 4, 0), 16 - (1 << 4 - step));
                Check.due("marks are no acts", x.count(11), 0);
                x.forget();
                x.mark(0, step, belief, false);
                Check.due("step " + step + " not belief " + belief, x.how(0, 4, 0), 1 << 4 - step);
            }
        }
    }

    private static void forgetEdges() {
        Check.part("promise 27: all MARKS are forgotten");
        FRESH.answers("forget() without marks", x -> {
            x.forget();
            return 0;
        }, 0);
        for (int many = 0; many <= 8; many++) {
            SpiderTales x = withMarks(many);
            Check.due("a row has none", x.how(1, 4, 0), many == 0 ? 256 : 0);
            x.forget();
            Check.due("marks", x.count(12), 0);
            Check.due("all rows", x.how(1, 4, 0), 256);
            Check.due("the first again", x.mark(0, 1, 0, true), 1);
        }
        SpiderTales y = withMarks(8);
        y.mark(0, 1, 0, true);
        y.forget();
        Check.due("STATUS stays", y.count(16), 1);
    }

    // ---- promises 41 and 42

    private static void imageEdges() {
        Check.part("promise 41: kept as an image, in place of another one");
        SpiderTales x = Scene.richWithTape();
        SpiderTales y = Scene.richWithTape();
        x.image();
        y.image();
        x.attempt(0, 1);
        x.days(20);
        x.guard(2);
        x.forget();
        x.restore();
        Check.same("as it was", Look.whole(x), Look.whole(y));
        SpiderTales z = Scene.richWithTape();
        z.undo();
        z.restore();
        SpiderTales w = Scene.richWithTape();
        w.restore();
        Check.same("the image that there was", Look.whole(z), Look.whole(w));
        SpiderTales v = Scene.rich();
        v.image();
        Check.same("no STATUS", Look.status(v), "1 2 1");
        Check.due("no act", v.count(11), 7);
    }

    private static void restoreEdges() {
        Check.part("promise 42: they are as the image again; false: there is none");
        FRESH.answers("restore()", x -> x.restore() ? 1 : 0, 0);
        new Quiet(() -> Scene.repeat(Scene.of(60), 5, 0, 0)).answers("none", x -> x.restore() ? 1 : 0, 0);
        SpiderTales x = Scene.richWithTape();
        String status = Look.status(x);
        Check.due("restore()", x.restore(), true);
        Check.same("STATUS stays", Look.status(x), status);
        Check.due("the tape stays", x.count(13), 40);
        Check.due("fault() stays", x.fault(), 11);
        int[] due = {54, 3, 5, 2, 8, NONE, 3, 3, 1};
        for (int what = 4; what <= 12; what++) {
            Check.due("count(" + what + ")", x.count(what), due[what - 4]);
        }
        x.give(5);
        x.mark(0, 1, 1, true);
        Check.due("again", x.restore(), true);
        Check.due("coins", x.count(4), 54);
        Check.due("marks", x.count(12), 1);
        Check.due("a text with a fault", Check.read(x, "#"), 1);
        SpiderTales y = Scene.rich();
        Check.read(y, "#");
        Check.due("leaves the image", y.restore(), true);
        Check.read(y, "coins 1;");
        Check.due("a sky leaves none", y.restore(), false);
        Check.due("coins", y.count(4), 1);
        SpiderTales z = new SpiderTales();
        z.image();
        z.give(1);
        Check.due("an image of a new object", z.restore(), true);
        Check.due("coins", z.count(4), 50);
        Check.due("acts", z.count(11), 0);
    }

    // ---- the document's first page

    private static void callsToTheLast() {
        Check.part("at most 512 calls: all of them are answered");
        SpiderTales x = new SpiderTales();
        for (int i = 1; i <= 255; i++) {
            Check.due("give", x.give(1), 50 + i);
            Check.due("days", x.days(1), i);
        }
        Check.due("the 511th", x.undo(), 39);
        Check.due("the 512th", x.count(5), 254);
    }
}
