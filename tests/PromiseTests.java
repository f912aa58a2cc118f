/** Each promise of the document by hand: ordinary inputs, edges, wrong inputs. */
public final class PromiseTests {
    private static final int NONE = SpiderTales.NONE;
    private static final int FAR = Integer.MAX_VALUE;
    private static final int LOW = Integer.MIN_VALUE;

    // creature 0 needs two ropes, 1 needs a belief first, 2 is caught by anything that lays cord
    private static final String THREE = "creature 10 0 2 30 5;creature 8 0 0 50 3;creature 1 4 9 50 0;"
            + "trick 0 0 0 0 5 3;trick 0 1 1 0 0 2;trick 1 0 2 1 9 7;coins 40;rival 3;";

    public static void main(String[] args) {
        newObject();
        feed();
        sky();
        skyOfRows();
        skyOfRules();
        skyOfDepth();
        skyKeepsAllOnFault();
        fault();
        count();
        creature();
        trick();
        attempt();
        attemptByRule();
        rules();
        days();
        rival();
        guard();
        give();
        tell();
        undo();
        plan();
        cheapest();
        canBelieve();
        order();
        stolen();
        cord();
        when();
        toGuard();
        payers();
        few();
        tellers();
        borrowed();
        mark();
        forget();
        how();
        next();
        game();
        spiders();
        fooled();
        lacking();
        useless();
        firm();
        loot();
        offer();
        alone();
        like();
        nearest();
        image();
        restore();
        Check.end("PromiseTests");
    }

    private static void newObject() {
        Check.part("promise 1");
        SpiderTales x = new SpiderTales();
        Check.due("NONE", NONE, -1);
        int[] due = {0, 0, 0, 0, 50, 0, 0, 0, 0, NONE, 0, 0, 0, 0, 0, 0, 0};
        for (int what = 0; what < due.length; what++) {
            Check.due("count(" + what + ")", x.count(what), due[what]);
        }
        Check.due("fault()", x.fault(), NONE);
        Check.due("undo()", x.undo(), NONE);
        Check.due("restore()", x.restore(), false);
        Check.due("days(20)", x.days(20), 20);
    }

    private static void feed() {
        Check.part("promise 2");
        SpiderTales x = new SpiderTales();
        for (int i = 1; i <= 35; i++) {
            Check.due("feed", x.feed(0, 0, 0, 0, 0), 20 * i);
        }
        Check.due("feed beyond 700", x.feed(0, 0, 0, 0, 0), NONE);
        Check.due("count(13)", x.count(13), 700);
        // 'coins 7;' with the highest byte of each number first
        SpiderTales y = new SpiderTales();
        Check.due("feed", y.feed(0x636f696e, 0x73203730, 0x3b202020, 0x20202020, 0x20200a3b), 20);
        Check.due("sky(18)", y.sky(18), 0);
        Check.due("count(4)", y.count(4), 70);
    }

    private static void sky() {
        Check.part("promise 3");
        SpiderTales x = new SpiderTales();
        Check.due("sky(0)", x.sky(0), 0);
        Check.illegal("sky(1)", () -> x.sky(1));
        Check.illegal("sky(-1)", () -> x.sky(-1));
        Check.illegal("sky(LOW)", () -> x.sky(LOW));
        Check.feed(x, "coins 9;             ");
        Check.illegal("sky(41)", () -> x.sky(41));
        Check.due("count(13) behind a throw", x.count(13), 40);
        Check.due("sky(8)", x.sky(8), 0);
        Check.due("count(13) is empty", x.count(13), 0);
        Check.due("count(4)", x.count(4), 9);
        x.give(1);
        x.days(2);
        x.image();
        Check.due("an empty sky", x.sky(0), 0);
        Check.due("coins anew", x.count(4), 50);
        Check.due("the day anew", x.count(5), 0);
        Check.due("no acts", x.undo(), NONE);
        Check.due("no image", x.restore(), false);
        SpiderTales y = Check.of("creature 1 0 0 9 0;trick 0 0 0 0 1 0;rival 1;bound 0;");
        y.mark(0, 1, 0, true);
        y.give(0);
        y.mark(0, 0, 0, true);
        Check.due("sky", Check.read(y, "creature 1 0 0 9 0;trick 0 0 0 0 1 0;"), 0);
        Check.due("no marks", y.count(12), 0);
        Check.due("status stays", y.count(15), 1);
        Check.due("status stays", y.count(16), 1);
        Check.due("the rule is gone", y.attempt(0, 0), 2);
        Check.due("the rival is gone", y.stolen(60), 0);
        Check.due("sky", Check.read(y, "creature 1 0 0 9 0;"), 0);
        Check.due("free anew", y.count(6), 1);
        Check.due("no guard", y.count(9), NONE);
        skyBehindSky();
    }

    private static void skyBehindSky() {
        SpiderTales x = Check.of(THREE + "hunter 1 1;tale 1;bound 1;");
        x.attempt(2, 0);
        x.guard(2);
        Check.due("a fault", Check.read(x, "coins 1;rival 1;bound 1;tale 1;trick"), 1);
        Check.due("the same words again", Check.read(x, THREE + "tale 5;"), 0);
        Check.due("fault()", x.fault(), NONE);
        Check.due("tricks anew", x.count(1), 3);
        Check.due("no hunters", x.count(2), 0);
        Check.due("tales anew", x.count(3), 1);
        Check.due("coins anew", x.count(4), 40);
        Check.due("free anew", x.count(6), 7);
        Check.due("no guard", x.count(9), NONE);
        Check.due("no cord", x.creature(2, 5), 0);
        Check.due("no rule", x.attempt(0, 0), 1);
    }

    private static void skyOfRows() {
        Check.part("promise 3, rows");
        Check.fine("creature60 63 9 99 9;trick 63 63 63 63 20 20;hunter 60 999;tale 1023;coins 999;rival 30;bound 9999;");
        Check.fine(" \n creature\n0 0000 0 0 0\n; ");
        Check.fault("creature 0 64 0 0 0;", 2, 11);
        Check.fault("creature 0 00000 0 0 0;", 2, 11);
        Check.fault("creature 0 0 10 0 0;", 2, 13);
        Check.fault("creature 0 0 0 100 0;", 2, 15);
        Check.fault("creature 0 0 0 0 10;", 2, 17);
        Check.fault("creature 0 0 0 0 0 0;", 1, 19);
        Check.fault("creature 0 0 0 0 0 12345;", 1, 19);
        Check.fault("trick 0 64 0 0 0 0;", 2, 8);
        Check.fault("trick 0 0 64 0 0 0;", 2, 10);
        Check.fault("trick 0 0 0 64 0 0;", 2, 12);
        Check.fault("trick 0 0 0 0 21 0;", 2, 14);
        Check.fault("trick 0 0 0 0 0 21;", 2, 16);
        Check.fault("hunter 61 0;", 2, 7);
        Check.fault("hunter 0 1000;", 2, 9);
        Check.fault("tale 1024;", 2, 5);
        Check.fault("coins 1000;", 2, 6);
        Check.fault("rival 0;", 2, 6);
        Check.fault("rival 31;", 2, 6);
        Check.fault("coins 1", 1, 7);
        Check.fault("coins 1  ", 1, 9);
        Check.fault("coins", 1, 5);
        Check.fault("coins 1;;", 1, 8);
        Check.fault("coins one;", 1, 6);
        Check.fault("coins -1;", 1, 6);
        Check.fault("creatures 0 0 0 0 0;", 1, 0);
        Check.fault("7;", 1, 0);
        Check.fault("xoins 1;", 1, 0);
        Check.fault("coinz 1;", 1, 0);
        Check.fault("coinsz 1;", 1, 0);
        Check.fault("coin 1;", 1, 0);
        Check.fault("coins` 1;", 1, 5);
        Check.fault("coins{ 1;", 1, 5);
        Check.fault("coins /1;", 1, 6);
        Check.fault("coins :1;", 1, 6);
        Check.fault("cord;", 1, 0);
        Check.fault("  Coins 1;", 1, 2);
        Check.fault("coins\t1;", 1, 5);
        Check.fault("coins 1\r;", 1, 7);
        Check.fault("coins 1\u00e9;", 1, 7);
        Check.fault("coins 1;coins 1000;", 5, 8);
        Check.fault("rival 1;coins 1;rival", 5, 16);
        Check.fault("bound 1;bound;", 5, 8);
        Check.fine(" ".repeat(700));
        Check.fault(" ".repeat(695) + "coins", 1, 700);
        Check.fault(" ".repeat(693) + "coins 1", 1, 700);
        Check.fault(" ".repeat(699) + "#", 1, 699);
        Check.fine(" ".repeat(692) + "coins 1;");
        Check.fine("tale 1;".repeat(8));
        Check.fault("tale 1;".repeat(9), 2, 56);
        Check.fine("hunter 1 1;".repeat(6));
        Check.fault("hunter 1 1;".repeat(7), 2, 66);
        Check.fine("trick 0 0 0 0 0 0;".repeat(8));
        Check.fault("trick 0 0 0 0 0 0;".repeat(8) + "trick", 2, 144);
        Check.fine("creature 0 0 0 0 0;".repeat(6));
        Check.fault("creature 0 0 0 0 0;".repeat(7), 2, 114);
    }

    private static void skyOfRules() {
        Check.part("promise 3, rules");
        Check.fine("bound cord<strength and not wary=beliefs or price*help/2-1+3;");
        Check.fine("bound not not not not not not 1;");
        Check.fault("bound not not not not not not not 1;", 2, 30);
        Check.fine("bound not not not (not not not not 1);");
        Check.fault("bound;", 1, 5);
        Check.fault("bound", 1, 5);
        Check.fault("bound 12345;", 2, 6);
        Check.fault("bound 1 12345;", 1, 8);
        Check.fault("bound 1+12345;", 2, 8);
        Check.fine("bound 9999;");
        Check.fault("bound day;", 3, 6);
        Check.fault("bound coins;", 3, 6);
        Check.fault("bound or;", 3, 6);
        Check.fault("bound 1 or and;", 3, 11);
        Check.fault("bound 1 day;", 1, 8);
        Check.fault("bound 1 cord;", 1, 8);
        Check.fault("bound 1 not;", 1, 8);
        Check.fault("bound 1+not 1;", 3, 8);
        Check.fault("bound 1<not 1;", 3, 8);
        Check.fault("bound not or;", 3, 10);
        Check.fault("bound notcord;", 3, 6);
        Check.fine("bound not1;");
        Check.fault("bound 1<2<3;", 1, 9);
        Check.fault("bound 1=2=3;", 1, 9);
        Check.fault("bound -1;", 1, 6);
        Check.fault("bound 1--1;", 1, 8);
        Check.fault("bound 1+;", 1, 8);
        Check.fault("bound ();", 1, 7);
        Check.fault("bound (1;", 1, 8);
        Check.fault("bound 1);", 1, 7);
        Check.fault("bound (1", 1, 8);
        Check.fault("bound #;", 1, 6);
        Check.fine("bound 1" + "+1".repeat(346) + ";");
    }

    private static void skyOfDepth() {
        Check.part("promise 3, depth");
        Check.fine("bound (((((1)))));");
        Check.fault("bound ((((((1))))));", 2, 12);
        Check.fault("bound ((((((day))))));", 2, 12);
        Check.fault("bound ((((((not 1))))));", 2, 12);
        Check.fault("bound (((((((1)))))));", 2, 12);
        Check.fault("bound ((((((12345))))));", 2, 12);
        Check.fault("bound (((((()))))));", 1, 12);
        Check.fault("bound ((((((+", 1, 12);
        Check.fault("bound ((((((", 1, 12);
        Check.fault("bound ((((((#", 1, 12);
        Check.fine("bound (((((1)))))+(((((2)))))*(((((3)))));");
        // five numbers wait at each depth
        Check.fine("bound 0 or 1 and 1<1+1*(0 or 1 and 1<1+1*(0 or 1 and 1<1+1*(0 or 1 and 1<1+1*(0 or 1 and 1<1+1*"
                + "(0 or 1 and 1<1+1*1)))));");
    }

    private static void skyKeepsAllOnFault() {
        Check.part("promise 3, all stays");
        SpiderTales x = Check.of(THREE);
        x.attempt(2, 0);
        x.guard(2);
        x.mark(0, 1, 0, true);
        x.image();
        Check.due("sky", Check.read(x, "coins 3;coins"), 5);
        Check.due("count(14)", x.count(14), 1);
        Check.due("count(13)", x.count(13), 0);
        Check.due("count(0)", x.count(0), 3);
        Check.due("count(4)", x.count(4), 37);
        Check.due("count(7)", x.count(7), 4);
        Check.due("count(9)", x.count(9), 2);
        Check.due("count(11)", x.count(11), 2);
        Check.due("count(12)", x.count(12), 1);
        Check.due("restore()", x.restore(), true);
        Check.due("undo()", x.undo(), 1);
    }

    private static void fault() {
        Check.part("promise 4");
        SpiderTales x = new SpiderTales();
        Check.read(x, "coins 1; tale");
        Check.due("fault()", x.fault(), 13);
        Check.illegal("sky(1)", () -> x.sky(1));
        Check.due("fault() stays behind a throw", x.fault(), 13);
        x.sky(0);
        Check.due("fault()", x.fault(), NONE);
    }

    private static void count() {
        Check.part("promise 5");
        SpiderTales x = Check.of(THREE + "hunter 1 1;hunter 2 2;tale 5;");
        x.attempt(2, 0);
        x.attempt(0, 0);
        x.days(2);
        x.guard(2);
        x.mark(1, 2, 3, false);
        x.give(0);
        x.mark(1, 0, 3, false);
        x.mark(1, 5, 3, false);
        Check.feed(x, "x");
        int[] due = {3, 3, 2, 1, 34, 2, 3, 4, 0, 2, 0, 4, 1, 20, 0, 1, 2};
        for (int what = 0; what < due.length; what++) {
            Check.due("count(" + what + ")", x.count(what), due[what]);
        }
        Check.noSuch("count(17)", () -> x.count(17));
        Check.noSuch("count(-1)", () -> x.count(-1));
        Check.noSuch("count(LOW)", () -> x.count(LOW));
    }

    private static void creature() {
        Check.part("promise 6");
        SpiderTales x = Check.of(THREE);
        int[] due = {10, 0, 2, 30, 5, 0, 0, 3};
        for (int what = 0; what < due.length; what++) {
            Check.due("creature(0, " + what + ")", x.creature(0, what), due[what]);
        }
        x.attempt(0, 1);
        Check.due("keys", x.creature(0, 7), 5);
        x.attempt(2, 0);
        Check.due("caught", x.creature(2, 6), 1);
        Check.due("no keys of one who is caught", x.creature(2, 7), 0);
        x.days(3);
        Check.due("stolen", x.creature(2, 6), 2);
        Check.due("no keys of one who is stolen", x.creature(2, 7), 0);
        Check.noSuch("creature(3, 0)", () -> x.creature(3, 0));
        Check.noSuch("creature(-1, 0)", () -> x.creature(-1, 0));
        Check.noSuch("creature(0, 8)", () -> x.creature(0, 8));
        Check.noSuch("creature(0, -1)", () -> x.creature(0, -1));
        Check.noSuch("creature(FAR, FAR)", () -> x.creature(FAR, FAR));
    }

    private static void trick() {
        Check.part("promise 7");
        SpiderTales x = Check.of("trick 1 2 3 4 5 6;");
        for (int what = 0; what < 6; what++) {
            Check.due("trick(0, " + what + ")", x.trick(0, what), what + 1);
        }
        Check.noSuch("trick(1, 0)", () -> x.trick(1, 0));
        Check.noSuch("trick(-1, 0)", () -> x.trick(-1, 0));
        Check.noSuch("trick(0, 6)", () -> x.trick(0, 6));
        Check.noSuch("trick(0, -1)", () -> x.trick(0, -1));
        Check.noSuch("trick(LOW, LOW)", () -> x.trick(LOW, LOW));
    }

    private static void attempt() {
        Check.part("promise 8");
        SpiderTales x = Check.of(THREE);
        Check.due("works", x.attempt(0, 0), 1);
        Check.due("cord", x.creature(0, 5), 5);
        Check.due("coins", x.count(4), 37);
        Check.due("doesn't work", x.attempt(0, 2), 0);
        Check.due("warier", x.creature(0, 2), 3);
        Check.due("no cord", x.creature(0, 5), 0);
        Check.due("coins", x.count(4), 30);
        Check.due("caught", x.attempt(2, 0), 2);
        Check.due("refused, not free", x.attempt(2, 0), NONE);
        Check.due("gives", x.attempt(1, 1), 1);
        Check.due("beliefs", x.creature(1, 1), 1);
        Check.due("no cord without the trick's", x.creature(1, 5), 0);
        Check.due("bars", x.attempt(1, 1), 0);
        Check.due("gives and takes, caught", x.attempt(1, 2), 2);
        Check.due("beliefs", x.creature(1, 1), 2);
        Check.due("help", x.count(10), 3);
        Check.due("coins", x.count(4), 16);
        Check.due("by help", x.attempt(0, 0), 1);
        Check.due("cord and help", x.creature(0, 5), 8);
        Check.due("status", x.count(15), 1);
        SpiderTales y = Check.of("creature 60 63 9 0 9;creature 1 0 0 0 9;trick 0 0 3 2 20 20;trick 63 0 0 0 0 0;"
                + "trick 0 0 0 0 20 0;trick 0 32 0 0 1 0;coins 20;");
        Check.due("just enough coins", y.attempt(0, 0), 1);
        Check.due("what is given and taken it hasn't", y.creature(0, 1), 61);
        Check.due("too few coins", y.attempt(0, 0), NONE);
        Check.due("caught", y.attempt(1, 2), 2);
        Check.due("29 more", y.attempt(0, 2), 1);
        Check.due("cord", y.creature(0, 5), 49);
        Check.due("a bar is there", y.attempt(0, 3), 0);
        Check.due("wary 9 at most", y.creature(0, 2), 9);
        y.attempt(0, 2);
        y.attempt(0, 2);
        Check.due("60 at most, caught", y.attempt(0, 2), 2);
        Check.due("cord", y.creature(0, 5), 60);
        Check.due("help of both", y.count(10), 18);
        Check.noSuch("attempt(2, 0)", () -> y.attempt(2, 0));
        Check.noSuch("attempt(-1, 0)", () -> y.attempt(-1, 0));
        Check.noSuch("attempt(0, 4)", () -> y.attempt(0, 4));
        Check.noSuch("attempt(0, LOW)", () -> y.attempt(0, LOW));
        SpiderTales z = Check.of("creature 0 0 0 0 0;trick 0 0 0 0 0 0;");
        Check.due("no cord binds none", z.attempt(0, 0), 1);
    }

    private static void attemptByRule() {
        Check.part("promise 8, by a rule");
        SpiderTales x = Check.of("creature 9 0 0 7 4;creature 0 0 0 0 0;trick 0 0 3 0 0 0;trick 0 0 0 0 1 0;bound beliefs-1;");
        Check.due("no belief", x.attempt(0, 1), 1);
        Check.due("beliefs behind the trick count", x.attempt(0, 0), 2);
        SpiderTales y = Check.of("creature 9 0 0 7 4;creature 0 0 0 0 0;trick 0 0 3 0 2 0;bound help=4 or price=7;");
        Check.due("by price", y.attempt(0, 0), 2);
        Check.due("by help of others", y.attempt(1, 0), 2);
        Check.due("cord", y.creature(1, 5), 6);
        SpiderTales z = Check.of("creature 9 0 0 7 4;trick 1 0 0 0 2 0;trick 0 0 0 0 0 0;bound wary=2;");
        z.attempt(0, 0);
        Check.due("wary 1", z.attempt(0, 1), 1);
        z.attempt(0, 0);
        Check.due("wary 2", z.attempt(0, 1), 2);
        SpiderTales w = Check.of("creature 9 0 0 7 4;trick 0 0 0 0 20 0;bound 0-cord;");
        Check.due("less than 0 doesn't bind", w.attempt(0, 0), 1);
    }

    /** One try of a trick that lays 3, at one of strength 7, wary 2, price 50. */
    private static void rule(String rule, boolean binds) {
        SpiderTales x = Check.of("creature 7 0 2 50 0;trick 0 0 21 0 3 0;bound " + rule + ";");
        Check.due("bound " + rule, x.attempt(0, 0), binds ? 2 : 1);
    }

    private static void rules() {
        Check.part("terms 1, rules");
        rule("cord=3", true);
        rule("strength=7", true);
        rule("wary=2", true);
        rule("beliefs=3", true);
        rule("price=50", true);
        rule("help=0", true);
        rule("1", true);
        rule("0", false);
        rule("2-3", false);
        rule("10-3-2=5", true);
        rule("100/10/5=2", true);
        rule("2+3*4=14", true);
        rule("(2+3)*4=20", true);
        rule("7/2=3", true);
        rule("(0-7)/2+3=0", true);
        rule("5/0=0", true);
        rule("5/(cord-3)+1", true);
        rule("5/(cord-3)", false);
        rule("9999*9999*22<0", true);
        rule("9999*9999*43=4172*1000+747", true);
        rule("2048*1024*1024<0", true);
        rule("2048*1024*1024/(0-1)<0", true);
        rule("2048*1024*1024-1", true);
        rule("1<2", true);
        rule("2<2", false);
        rule("2<1", false);
        rule("(1<2)=1", true);
        rule("(2=2)=1", true);
        rule("(2=3)=0", true);
        rule("not 0", true);
        rule("not 5", false);
        rule("(not 5)=0", true);
        rule("not 1=2", true);
        rule("not not 5=5", true);
        rule("(not not 5)=1", true);
        rule("(5 and 7)=1", true);
        rule("5 and 0", false);
        rule("(0 or 7)=1", true);
        rule("0 or 0", false);
        rule("(0-5) and (0-1)", true);
        rule("1 or 1 and 0", true);
        rule("(1 or 1) and 0", false);
        rule("not 1 or 1", true);
        rule("not 0 and 0", false);
        rule("0 or 1 and 1<1+1*(0 or 1 and 1<1+1*(0 or 1 and 1<1+1*(0 or 1 and 1<1+1*(0 or 1 and 1<1+1*"
                + "(0 or 1 and 1<1+1*1)))))", true);
        rule("1" + "-1".repeat(300) + "+300", true);
        rule("1" + "-1".repeat(300) + "+299", false);
    }

    private static void days() {
        Check.part("promise 9");
        SpiderTales x = Check.of("creature 60 0 0 0 0;creature 2 0 0 0 0;trick 0 0 0 0 2 0;");
        x.attempt(0, 0);
        x.attempt(0, 0);
        x.attempt(1, 0);
        Check.due("days(1)", x.days(1), 1);
        Check.due("cord 1 less", x.creature(0, 5), 3);
        Check.due("cord of one who is caught", x.creature(1, 5), 2);
        Check.due("days(20)", x.days(20), 21);
        Check.due("cord not below 0", x.creature(0, 5), 0);
        Check.due("days(0)", x.days(0), NONE);
        Check.due("days(21)", x.days(21), NONE);
        Check.due("days(-1)", x.days(-1), NONE);
        Check.due("days(FAR)", x.days(FAR), NONE);
        Check.due("days(LOW)", x.days(LOW), NONE);
        Check.due("status", x.count(15), 5);
        for (int i = 0; i < 48; i++) {
            x.days(20);
        }
        Check.due("the day", x.count(5), 981);
        Check.due("above 999", x.days(19), NONE);
        Check.due("days(18)", x.days(18), 999);
        Check.due("days(1)", x.days(1), NONE);
        Check.due("status", x.count(15), 7);
        Check.due("the day", x.count(5), 999);
    }

    private static void rival() {
        Check.part("promise 9, the rival");
        SpiderTales x = Check.of("creature 1 0 0 5 1;creature 1 0 0 9 2;creature 1 0 0 9 4;trick 0 0 0 0 1 0;rival 2;");
        x.attempt(0, 0);
        x.attempt(1, 0);
        x.attempt(2, 0);
        Check.due("help", x.count(10), 7);
        x.days(1);
        Check.due("not yet", x.count(8), 0);
        x.days(1);
        Check.due("the greatest price, the least", x.count(8), 2);
        Check.due("help", x.count(10), 5);
        x.guard(2);
        x.days(2);
        Check.due("not the guarded one", x.count(8), 3);
        x.days(20);
        Check.due("still not", x.count(8), 3);
        Check.due("caught", x.count(7), 4);
        Check.due("refused, stolen", x.attempt(1, 0), NONE);
        SpiderTales y = Check.of("creature 1 0 0 0 0;trick 0 0 0 0 1 0;rival 1;");
        y.attempt(0, 0);
        y.days(1);
        Check.due("of no price, too", y.count(8), 1);
    }

    private static void guard() {
        Check.part("promise 10");
        SpiderTales x = Check.of(THREE);
        Check.due("free", x.guard(2), false);
        x.attempt(2, 0);
        x.attempt(1, 0);
        x.attempt(1, 0);
        Check.due("caught", x.guard(2), true);
        Check.due("again", x.guard(2), false);
        Check.due("count(9)", x.count(9), 2);
        Check.due("another", x.guard(1), true);
        Check.due("count(9)", x.count(9), 1);
        x.days(3);
        Check.due("the other one is left", x.count(8), 4);
        Check.due("stolen", x.guard(2), false);
        Check.due("status", x.count(15), 3);
        Check.noSuch("guard(3)", () -> x.guard(3) ? 1 : 0);
        Check.noSuch("guard(-1)", () -> x.guard(-1) ? 1 : 0);
    }

    private static void give() {
        Check.part("promise 11");
        SpiderTales x = Check.of("coins 900;");
        Check.due("give(1)", x.give(1), 901);
        Check.due("give(0)", x.give(0), NONE);
        Check.due("give(100)", x.give(100), NONE);
        Check.due("give(LOW)", x.give(LOW), NONE);
        Check.due("status", x.count(15), 3);
        Check.due("give(99)", x.give(99), 999);
        Check.due("give(98)", x.give(98), 999);
        Check.due("acts", x.count(11), 3);
        x.undo();
        x.undo();
        Check.due("coins", x.count(4), 901);
    }

    private static void tell() {
        Check.part("promise 12");
        SpiderTales x = Check.of(THREE);
        Check.due("tell(0, 5, true)", x.tell(0, 5, true), 32);
        Check.due("tell(0, 0, true)", x.tell(0, 0, true), 33);
        Check.due("tell(0, 5, false)", x.tell(0, 5, false), 1);
        Check.due("so already", x.tell(0, 0, true), NONE);
        Check.due("so already", x.tell(0, 5, false), NONE);
        x.attempt(2, 0);
        Check.due("not free", x.tell(2, 0, true), NONE);
        Check.due("status", x.count(15), 3);
        Check.noSuch("tell(3, 0)", () -> x.tell(3, 0, true));
        Check.noSuch("tell(-1, 0)", () -> x.tell(-1, 0, true));
        Check.noSuch("tell(0, 6)", () -> x.tell(0, 6, true));
        Check.noSuch("tell(0, -1)", () -> x.tell(0, -1, true));
        Check.noSuch("not free, no such belief", () -> x.tell(2, 6, true));
        Check.due("status", x.count(15), 3);
    }

    private static void undo() {
        Check.part("promise 13");
        SpiderTales x = Check.of(THREE);
        x.attempt(0, 2);
        x.attempt(2, 0);
        x.guard(2);
        x.days(2);
        x.tell(1, 4, true);
        x.give(9);
        x.guard(2);
        x.mark(0, 1, 1, true);
        Check.due("coins given", x.undo(), 5);
        Check.due("coins", x.count(4), 30);
        Check.due("told", x.undo(), 4);
        Check.due("beliefs", x.creature(1, 1), 0);
        Check.due("days", x.undo(), 3);
        Check.due("the day", x.count(5), 0);
        Check.due("the guard", x.undo(), 2);
        Check.due("guarded", x.count(9), NONE);
        Check.due("a try", x.undo(), 1);
        Check.due("free", x.count(6), 7);
        Check.due("cord", x.creature(2, 5), 0);
        Check.due("a try", x.undo(), 0);
        Check.due("wary", x.creature(0, 2), 2);
        Check.due("coins", x.count(4), 40);
        Check.due("none", x.undo(), NONE);
        Check.due("marks stay", x.count(12), 1);
        Check.due("status stays", x.count(15), 1);
        for (int i = 1; i <= 45; i++) {
            x.give(i % 9 + 1);
            Check.due("acts", x.count(11), Math.min(i, 40));
        }
        for (int i = 39; i >= 0; i--) {
            Check.due("undo", x.undo(), i);
        }
        Check.due("none", x.undo(), NONE);
        Check.due("the first five stay", x.count(4), 40 + 2 + 3 + 4 + 5 + 6);
    }

    private static void plan() {
        Check.part("promise 14");
        SpiderTales x = Check.of(THREE);
        Check.due("two ropes", x.plan(0, -1), 2);
        Check.due("the first row", x.plan(0, 0), 0);
        Check.due("the first row", x.plan(0, 1), 0);
        Check.noSuch("plan(0, 2)", () -> x.plan(0, 2));
        Check.noSuch("plan(0, FAR)", () -> x.plan(0, FAR));
        Check.noSuch("plan(0, -2)", () -> x.plan(0, -2));
        Check.noSuch("plan(3, -1)", () -> x.plan(3, -1));
        Check.noSuch("plan(-1, -1)", () -> x.plan(-1, -1));
        x.attempt(0, 0);
        Check.due("cord as it is", x.plan(0, -1), 1);
        x.attempt(0, 0);
        Check.due("not free", x.plan(0, -1), -2);
        Check.due("not free", x.plan(0, FAR), -2);
        Check.noSuch("not free, below", () -> x.plan(0, -2));
        Check.due("help as it is", x.plan(1, -1), 1);
        // the second row is as long, but begins by a later trick; coins don't count
        SpiderTales y = Check.of("creature 10 0 0 0 0;trick 2 0 0 0 20 9;trick 0 0 1 0 0 9;trick 1 0 0 0 20 9;"
                + "trick 0 0 2 0 0 9;coins 0;");
        Check.due("tries", y.plan(0, -1), 2);
        Check.due("1, then 2", y.plan(0, 0), 1);
        Check.due("1, then 2", y.plan(0, 1), 2);
        SpiderTales z = Check.of("creature 10 0 0 0 0;creature 60 1 0 0 0;trick 1 0 0 0 1 0;");
        Check.due("no trick works", z.plan(0, -1), -2);
        Check.due("no trick works", z.plan(0, 0), -2);
        Check.due("sixty tries", z.plan(1, -1), 60);
        Check.due("the last", z.plan(1, 59), 0);
        Check.noSuch("plan(1, 60)", () -> z.plan(1, 60));
        SpiderTales w = Check.of("creature 10 0 0 0 0;trick 0 0 0 0 0 0;bound beliefs<1;");
        Check.due("one is bound by a try alone", w.plan(0, -1), 1);
        SpiderTales v = Check.of("creature 10 0 0 0 0;trick 0 0 0 0 7 0;bound cord=60;");
        Check.due("cord stays at 60", v.plan(0, -1), 9);
        SpiderTales u = Check.of("creature 10 0 0 0 0;trick 0 0 0 0 7 0;bound cord=59;");
        Check.due("no such cord", u.plan(0, -1), -2);
        planByRule();
    }

    private static void planByRule() {
        SpiderTales x = Check.of("creature 0 0 1 4 0;creature 0 0 0 5 0;trick 0 0 0 0 1 0;trick 32 0 0 0 0 0;"
                + "bound cord-wary-price;");
        Check.due("6 cords for wary 1 and price 4", x.plan(0, -1), 6);
        Check.due("6 cords for price 5", x.plan(1, -1), 6);
        x.attempt(0, 1);
        Check.due("warier", x.plan(0, -1), 7);
        Check.due("warier", x.cheapest(0), 0);
        SpiderTales y = Check.of("creature 0 0 0 0 0;creature 0 62 0 0 0;trick 0 0 1 0 0 3;trick 1 0 2 0 0 1;trick 2 0 4 0 0 1;"
                + "trick 4 0 8 0 0 1;trick 8 0 16 0 0 1;trick 16 0 32 0 0 1;trick 63 0 0 0 1 2;bound beliefs=6 and cord=60;");
        Check.due("all beliefs, then sixty cords", y.plan(0, -1), 66);
        Check.due("all beliefs, then sixty cords", y.cheapest(0), 128);
        Check.due("one belief less", y.plan(1, -1), 61);
        Check.due("one belief less", y.cheapest(1), 123);
        Check.due("0 to 5 first", y.plan(0, 5), 5);
        Check.due("then 6", y.plan(0, 6), 6);
    }

    private static void cheapest() {
        Check.part("promise 15");
        SpiderTales x = Check.of(THREE);
        Check.due("two ropes", x.cheapest(0), 6);
        Check.due("two ropes are less than a belief and a net", x.cheapest(1), 6);
        x.attempt(2, 0);
        Check.due("not free", x.cheapest(2), NONE);
        SpiderTales y = Check.of("creature 10 0 0 0 0;trick 0 0 0 0 10 20;trick 0 0 0 0 1 1;trick 0 0 4 0 0 0;"
                + "trick 4 0 0 0 2 1;coins 0;");
        Check.due("many small ones", y.plan(0, -1), 1);
        Check.due("many small ones", y.cheapest(0), 5);
        SpiderTales z = Check.of("creature 10 0 0 0 0;trick 1 0 0 0 1 0;");
        Check.due("none", z.cheapest(0), NONE);
        // the dear first step is found first, the cheap way round comes later at the same cord
        SpiderTales w = Check.of("creature 1 0 0 0 0;trick 0 0 1 0 0 20;trick 0 0 2 0 0 1;trick 2 0 5 2 0 1;"
                + "trick 1 0 0 0 20 4;");
        Check.due("by another way", w.cheapest(0), 6);
        SpiderTales v = Check.of("creature 20 0 0 0 2;creature 2 0 0 0 5;trick 0 0 0 0 5 5;");
        Check.due("four", v.cheapest(0), 20);
        Check.due("one", v.cheapest(1), 5);
        v.attempt(0, 0);
        Check.due("cord as it is", v.cheapest(0), 15);
        v.attempt(1, 0);
        Check.due("help as it is", v.cheapest(0), 10);
        Check.noSuch("cheapest(1)", () -> z.cheapest(1));
        Check.noSuch("cheapest(-1)", () -> z.cheapest(-1));
    }

    private static void canBelieve() {
        Check.part("promise 16");
        SpiderTales x = Check.of("creature 9 1 0 0 0;creature 9 0 0 0 0;trick 1 0 2 1 5 0;trick 2 0 4 0 5 0;"
                + "trick 4 0 8 0 0 0;trick 2 0 16 0 0 20;coins 0;");
        Check.due("already", x.canBelieve(0, 1, 62), true);
        Check.due("nothing asked", x.canBelieve(0, 0, 0), true);
        Check.due("by one", x.canBelieve(0, 2, 1), true);
        Check.due("never at once", x.canBelieve(0, 3, 0), false);
        Check.due("caught by the last one", x.canBelieve(0, 6, 0), true);
        Check.due("not behind that", x.canBelieve(0, 8, 0), false);
        Check.due("coins don't count", x.canBelieve(0, 16, 0), true);
        Check.due("no key", x.canBelieve(1, 2, 0), false);
        Check.illegal("in both", () -> x.canBelieve(0, 3, 2) ? 1 : 0);
        Check.illegal("64", () -> x.canBelieve(0, 64, 0) ? 1 : 0);
        Check.illegal("64", () -> x.canBelieve(0, 0, 64) ? 1 : 0);
        Check.illegal("-1", () -> x.canBelieve(0, -1, 0) ? 1 : 0);
        Check.illegal("-1", () -> x.canBelieve(0, 0, -1) ? 1 : 0);
        Check.noSuch("ahead", () -> x.canBelieve(2, 64, 64) ? 1 : 0);
        Check.noSuch("-1", () -> x.canBelieve(-1, 0, 0) ? 1 : 0);
        x.attempt(0, 0);
        x.attempt(0, 1);
        Check.due("not free", x.canBelieve(0, 0, 0), false);
        Check.illegal("not free, in both", () -> x.canBelieve(0, 1, 1) ? 1 : 0);
    }

    private static void order() {
        Check.part("promise 17");
        // with 9 of help each needs one try; alone 0 needs 4, 1 needs 3, 2 needs 2
        SpiderTales x = Check.of("creature 10 0 0 0 0;creature 9 0 0 0 0;creature 6 0 0 0 9;trick 0 0 0 0 3 0;");
        Check.due("tries", x.order(-1), 4);
        Check.due("first", x.order(0), 2);
        Check.due("second", x.order(1), 0);
        Check.due("third", x.order(2), 1);
        Check.noSuch("order(3)", () -> x.order(3));
        Check.noSuch("order(-2)", () -> x.order(-2));
        Check.noSuch("order(LOW)", () -> x.order(LOW));
        x.attempt(2, 0);
        x.attempt(2, 0);
        Check.due("tries", x.order(-1), 2);
        Check.due("like ones: the first order", x.order(0), 0);
        Check.noSuch("order(2)", () -> x.order(2));
        x.attempt(0, 0);
        x.attempt(1, 0);
        Check.due("none is free", x.order(-1), 0);
        Check.noSuch("order(0)", () -> x.order(0));
        SpiderTales y = Check.of("creature 10 0 0 0 0;creature 6 1 0 0 9;trick 0 1 0 0 3 0;");
        Check.due("it can't be", y.order(-1), -2);
        Check.due("it can't be", y.order(0), -2);
        Check.due("it can't be", y.order(1), -2);
        Check.noSuch("ahead", () -> y.order(2));
        // more help is no use here: by it the cord goes past 3
        SpiderTales z = Check.of("creature 0 0 0 0 1;creature 0 0 0 0 2;creature 0 1 0 0 0;trick 0 1 0 0 3 0;"
                + "trick 1 0 0 0 2 0;bound cord=3 or price=9 or cord=4;");
        Check.due("tries", z.order(-1), 3);
        Check.due("0 ahead of 2", z.order(0), 0);
        Check.due("2 with the help of 0 alone", z.order(1), 2);
        Check.due("last", z.order(2), 1);
    }

    private static void stolen() {
        Check.part("promise 18");
        SpiderTales x = Check.of("creature 1 0 0 5 0;creature 1 0 0 9 0;creature 1 0 0 9 0;trick 0 0 0 0 1 0;rival 20;");
        x.attempt(0, 0);
        x.attempt(1, 0);
        x.attempt(2, 0);
        Check.due("now", x.stolen(0), 0);
        Check.due("19", x.stolen(19), 0);
        Check.due("20", x.stolen(20), 2);
        Check.due("40", x.stolen(40), 6);
        Check.due("60", x.stolen(60), 7);
        Check.due("nothing changed", x.count(8), 0);
        x.days(20);
        Check.due("who is already", x.stolen(0), 2);
        x.guard(0);
        Check.due("with the guard", x.stolen(60), 6);
        Check.illegal("stolen(61)", () -> x.stolen(61));
        Check.illegal("stolen(-1)", () -> x.stolen(-1));
    }

    private static void cord() {
        Check.part("promise 19");
        SpiderTales x = Check.of("creature 30 0 0 5 0;creature 7 0 0 9 0;trick 0 0 0 0 7 0;");
        x.attempt(0, 0);
        x.attempt(1, 0);
        Check.due("now", x.cord(0, 0), 7);
        Check.due("in 4", x.cord(0, 4), 3);
        Check.due("in 7", x.cord(0, 7), 0);
        Check.due("in 60", x.cord(0, 60), 0);
        Check.due("caught", x.cord(1, 60), 7);
        Check.illegal("61", () -> x.cord(0, 61));
        Check.illegal("-1", () -> x.cord(0, -1));
        Check.noSuch("ahead", () -> x.cord(2, 61));
        Check.noSuch("-1", () -> x.cord(-1, 0));
    }

    private static void when() {
        Check.part("promise 20");
        SpiderTales x = Check.of("creature 1 0 0 5 0;creature 1 0 0 9 0;creature 1 0 0 9 0;trick 0 0 0 0 1 0;rival 30;");
        x.attempt(0, 0);
        x.attempt(1, 0);
        Check.due("second", x.when(0), 60);
        Check.due("first", x.when(1), 30);
        Check.due("free", x.when(2), NONE);
        x.attempt(2, 0);
        Check.due("third", x.when(0), NONE);
        Check.due("second", x.when(2), 60);
        x.days(7);
        Check.due("later", x.when(1), 23);
        Check.due("later", x.when(0), NONE);
        x.guard(1);
        Check.due("guarded", x.when(1), NONE);
        x.days(20);
        x.days(3);
        Check.due("it is", x.when(2), 0);
        Check.noSuch("when(3)", () -> x.when(3));
        Check.noSuch("when(-1)", () -> x.when(-1));
    }

    private static void toGuard() {
        Check.part("promise 21");
        SpiderTales x = Check.of("creature 1 0 0 5 0;creature 1 0 0 9 0;creature 1 0 0 9 0;creature 1 0 0 99 0;"
                + "trick 0 0 0 0 1 0;rival 3;");
        Check.due("none is caught", x.toGuard(60), NONE);
        x.attempt(0, 0);
        x.attempt(1, 0);
        x.attempt(2, 0);
        Check.due("none comes", x.toGuard(2), NONE);
        Check.due("of like ones the least", x.toGuard(3), NONE);
        Check.due("two are lost", x.toGuard(6), 1);
        Check.due("all are lost", x.toGuard(9), 1);
        x.guard(0);
        Check.due("another guard than now", x.toGuard(9), 1);
        x.guard(1);
        Check.due("the guard that is", x.toGuard(9), 1);
        Check.illegal("0", () -> x.toGuard(0));
        Check.illegal("61", () -> x.toGuard(61));
        Check.illegal("-1", () -> x.toGuard(-1));
        SpiderTales y = Check.of("creature 1 0 0 5 0;creature 1 0 0 9 0;trick 0 0 0 0 1 0;rival 3;");
        y.attempt(0, 0);
        y.attempt(1, 0);
        Check.due("one of two", y.toGuard(3), 1);
        Check.due("nothing changed", y.count(9), NONE);
        SpiderTales w = Check.of("creature 1 0 0 9 0;creature 1 0 0 5 0;trick 0 0 0 0 1 0;rival 1;");
        w.attempt(0, 0);
        w.attempt(1, 0);
        Check.due("the first, for a day", w.toGuard(1), 0);
        Check.due("the first, for long", w.toGuard(60), 0);
        SpiderTales z = Check.of("creature 1 0 0 0 0;trick 0 0 0 0 1 0;rival 1;");
        z.attempt(0, 0);
        Check.due("of no price", z.toGuard(60), NONE);
    }

    private static final String HUNT = "creature 10 0 0 20 0;creature 20 0 0 30 0;hunter 10 100;hunter 25 60;"
            + "hunter 20 60;hunter 9 999;";

    private static void payers() {
        Check.part("promise 22");
        SpiderTales x = Check.of(HUNT);
        Check.due("none of them", x.payers(0, 0), 15);
        Check.due("0", x.payers(1, 0), 7);
        Check.due("1", x.payers(2, 60), 6);
        Check.due("both", x.payers(3, 0), 6);
        Check.due("61", x.payers(2, 61), 0);
        Check.due("999", x.payers(0, 999), 8);
        Check.illegal("4", () -> x.payers(4, 0));
        Check.illegal("-1", () -> x.payers(-1, 0));
        Check.illegal("1000", () -> x.payers(0, 1000));
        Check.illegal("-1", () -> x.payers(0, -1));
    }

    private static void few() {
        Check.part("promise 23");
        SpiderTales x = Check.of(HUNT);
        Check.due("four", x.few(0, 4), 0);
        Check.due("three", x.few(0, 3), 61);
        Check.due("two", x.few(0, 2), 61);
        Check.due("one", x.few(0, 1), 101);
        Check.due("none", x.few(0, 0), NONE);
        Check.due("of 1", x.few(2, 0), 61);
        Check.due("of 1", x.few(2, 2), 0);
        Check.due("five", x.few(3, 5), 0);
        Check.illegal("4", () -> x.few(4, 0));
        Check.illegal("LOW", () -> x.few(LOW, 0));
        Check.illegal("6", () -> x.few(0, 6));
        Check.illegal("-1", () -> x.few(0, -1));
        SpiderTales y = Check.of("hunter 0 998;");
        Check.due("999", y.few(0, 0), 999);
        SpiderTales z = Check.of("hunter 0 0;".repeat(6));
        Check.due("1", z.few(0, 5), 1);
    }

    private static void tellers() {
        Check.part("promise 24");
        Check.due("no tales", new SpiderTales().tellers(), 0);
        Check.due("empty tales", Check.of("tale 0;tale 0;").tellers(), 0);
        Check.due("one has all", Check.of("tale 1;tale 2;tale 3;tale 3;").tellers(), 4);
        Check.due("of as few the least", Check.of("tale 3;tale 12;tale 5;tale 10;").tellers(), 3);
        Check.due("greedy is wrong", Check.of("tale 14;tale 73;tale 50;tale 63;tale 64;").tellers(), 10);
        Check.due("all", Check.of("tale 1;tale 2;tale 4;tale 8;tale 16;tale 32;tale 64;tale 896;").tellers(), 255);
    }

    private static void borrowed() {
        Check.part("promise 25");
        SpiderTales x = Check.of("tale 7;tale 3;tale 1016;tale 11;tale 4;tale 0;");
        Check.due("the first", x.borrowed(0, 0), 0);
        Check.due("the first", x.borrowed(0, 1), NONE);
        Check.due("two of 0", x.borrowed(1, 0), 2);
        Check.due("two of 0", x.borrowed(1, 1), 0);
        Check.due("nothing", x.borrowed(2, 0), 0);
        Check.due("nothing", x.borrowed(2, 1), NONE);
        Check.due("of like ones the least", x.borrowed(3, 0), 2);
        Check.due("of like ones the least", x.borrowed(3, 1), 0);
        Check.due("one", x.borrowed(4, 0), 1);
        Check.due("no parts", x.borrowed(5, 1), NONE);
        Check.noSuch("6", () -> x.borrowed(6, 0));
        Check.noSuch("-1", () -> x.borrowed(-1, 0));
        Check.noSuch("what 2", () -> x.borrowed(0, 2));
        Check.noSuch("what -1", () -> x.borrowed(0, -1));
    }

    private static void mark() {
        Check.part("promise 26");
        SpiderTales x = Check.of(THREE);
        for (int i = 1; i <= 8; i++) {
            Check.due("mark", x.mark(i % 3, i % 4 + 1, i % 6, i % 2 == 0), i);
        }
        Check.due("there are 8", x.mark(0, 1, 0, true), NONE);
        Check.due("status", x.count(16), 1);
        x.forget();
        Check.due("step 0", x.mark(0, 0, 0, true), NONE);
        Check.due("step 5", x.mark(0, 5, 0, true), NONE);
        Check.due("step FAR", x.mark(0, FAR, 0, true), NONE);
        Check.due("status", x.count(16), 4);
        Check.noSuch("creature 3", () -> x.mark(3, 5, 0, true));
        Check.noSuch("creature -1", () -> x.mark(-1, 1, 0, true));
        Check.noSuch("belief 6", () -> x.mark(0, 5, 6, true));
        Check.noSuch("belief -1", () -> x.mark(0, 1, -1, true));
        Check.due("status", x.count(16), 4);
        Check.due("acts", x.count(11), 0);
        x.attempt(2, 0);
        Check.due("of one who is caught", x.mark(2, 4, 5, false), 1);
    }

    private static void forget() {
        Check.part("promise 27");
        SpiderTales x = Check.of(THREE);
        x.forget();
        Check.due("none", x.count(12), 0);
        x.mark(0, 1, 0, true);
        x.mark(1, 1, 0, true);
        x.forget();
        Check.due("none", x.count(12), 0);
        Check.due("all rows", x.how(0, 1, 0), 3);
    }

    private static void how() {
        Check.part("promise 28");
        SpiderTales x = Check.of(THREE);
        Check.due("no marks", x.how(0, 1, 0), 3);
        Check.due("no marks", x.how(0, 4, 0), 81);
        Check.due("no marks", x.how(0, 4, 1), 0);
        x.mark(0, 2, 1, true);
        Check.due("1, then 2", x.how(0, 2, 0), 1);
        Check.due("1, then 2", x.how(0, 2, 1), 12);
        Check.due("a mark behind these tries", x.how(0, 1, 0), 3);
        Check.due("1, 2 and any", x.how(0, 3, 0), 3);
        Check.due("1, 2 and any", x.how(0, 3, 1), 120);
        Check.due("another creature's", x.how(1, 2, 0), 9);
        x.mark(0, 3, 0, true);
        Check.due("1, 2, 1", x.how(0, 3, 1), 121);
        x.mark(0, 4, 0, false);
        Check.due("1, 2, 1, 2", x.how(0, 4, 0), 1);
        Check.due("1, 2, 1, 2", x.how(0, 4, 1), 1212);
        x.mark(0, 1, 0, false);
        Check.due("none", x.how(0, 3, 0), 0);
        Check.due("none", x.how(0, 3, 1), NONE);
        x.forget();
        x.mark(0, 1, 0, true);
        x.mark(0, 1, 0, false);
        Check.due("both", x.how(0, 1, 0), 0);
        Check.noSuch("creature 3", () -> x.how(3, 0, 0));
        Check.noSuch("creature -1", () -> x.how(-1, 1, 0));
        Check.noSuch("what 2", () -> x.how(0, 0, 2));
        Check.noSuch("what -1", () -> x.how(0, 1, -1));
        Check.illegal("tries 0", () -> x.how(0, 0, 0));
        Check.illegal("tries 5", () -> x.how(0, 5, 1));
        SpiderTales y = Check.of("creature 1 0 0 0 0;");
        Check.due("no tricks", y.how(0, 2, 0), 0);
        Check.due("no tricks", y.how(0, 2, 1), NONE);
        SpiderTales z = Check.of("creature 1 0 0 0 0;trick 0 0 3 0 20 0;");
        z.attempt(0, 0);
        z.mark(0, 2, 0, true);
        Check.due("of one who is caught, none is caught", z.how(0, 2, 0), 1);
        SpiderTales w = Check.of("creature 1 0 0 0 0;creature 1 6 0 0 0;trick 6 0 1 0 0 0;trick 0 0 8 0 0 0;");
        w.mark(1, 1, 0, true);
        w.mark(0, 1, 0, true);
        Check.due("from its beliefs", w.how(1, 1, 0), 1);
        Check.due("from its beliefs", w.how(0, 1, 0), 0);
        w.tell(1, 1, false);
        Check.due("as they are", w.how(1, 1, 0), 0);
    }

    private static void next() {
        Check.part("promise 29");
        SpiderTales x = Check.of("creature 1 0 0 0 0;trick 0 0 1 0 0 0;trick 0 0 2 0 0 0;trick 1 0 0 1 0 0;");
        Check.due("one try", x.next(0, 1, 0), 1);
        Check.due("0, 1, 2", x.next(0, 1, 1), 3);
        Check.due("two tries", x.next(0, 2, 0), 2);
        Check.due("all four", x.next(0, 2, 1), 4);
        Check.due("of like ones the first", x.next(0, 4, 0), 2);
        Check.due("all four", x.next(0, 4, 1), 4);
        x.mark(0, 2, 0, true);
        x.mark(0, 2, 1, true);
        Check.due("the other step", x.next(0, 2, 0), 1);
        Check.due("1 or 2", x.next(0, 2, 1), 2);
        Check.due("a mark behind these tries", x.next(0, 1, 1), 3);
        x.mark(0, 1, 5, true);
        Check.due("no row", x.next(0, 2, 0), NONE);
        Check.due("no row", x.next(0, 2, 1), 0);
        Check.noSuch("creature 1", () -> x.next(1, 0, 0));
        Check.noSuch("what 2", () -> x.next(0, 0, 2));
        Check.noSuch("what -1", () -> x.next(0, 1, -1));
        Check.illegal("tries 0", () -> x.next(0, 0, 0));
        Check.illegal("tries 5", () -> x.next(0, 5, 1));
        SpiderTales y = Check.of("creature 1 0 0 0 0;");
        Check.due("no tricks", y.next(0, 4, 0), NONE);
        Check.due("no tricks", y.next(0, 4, 1), 0);
    }

    private static void game() {
        Check.part("promise 30");
        // 0 and 1 are alike, 2 is better, 3 has too little skill; prices 50, 2, 12, 1
        SpiderTales x = Check.of("creature 10 0 0 50 0;creature 10 0 0 2 0;creature 10 0 0 12 0;creature 10 0 0 1 0;"
                + "hunter 10 0;hunter 10 0;hunter 20 0;hunter 9 0;");
        Check.due("alike", x.game(0, 1, 0, 0), 2);
        Check.due("alike: one alone", x.game(0, 1, 0, 1), 1);
        Check.due("better goes", x.game(2, 0, 0, 0), 1);
        Check.due("better goes", x.game(2, 0, 0, 1), 10);
        Check.due("better goes", x.game(0, 2, 0, 1), 1);
        Check.due("as good as waiting: 00, 01, 10", x.game(0, 1, 1, 0), 3);
        Check.due("as good as waiting", x.game(0, 1, 1, 1), 0);
        Check.due("12: less 10 is 2", x.game(2, 0, 2, 0), 2);
        Check.due("12: the other alone, or the better", x.game(2, 0, 2, 1), 1);
        Check.due("price 1", x.game(0, 1, 3, 0), 1);
        Check.due("price 1: both wait", x.game(0, 1, 3, 1), 0);
        Check.due("too little skill", x.game(3, 0, 0, 0), 1);
        Check.due("too little skill", x.game(3, 0, 0, 1), 1);
        Check.due("too little skill, price 2", x.game(3, 0, 1, 0), 2);
        Check.noSuch("hunter 4", () -> x.game(4, 4, 0, 0));
        Check.noSuch("hunter -1", () -> x.game(-1, 0, 0, 0));
        Check.noSuch("other 4", () -> x.game(0, 4, 0, 0));
        Check.noSuch("creature 4", () -> x.game(0, 0, 4, 0));
        Check.noSuch("what 2", () -> x.game(0, 0, 0, 2));
        Check.noSuch("what -1", () -> x.game(0, 1, 0, -1));
        Check.illegal("both are one", () -> x.game(0, 0, 0, 0));
    }

    private static void spiders() {
        Check.part("promise 31");
        SpiderTales x = Check.of("creature 1 0 0 9 0;trick 0 0 0 0 1 3;coins 7;");
        Check.due("each catches it", x.spiders(5, 4, 0), 4);
        Check.due("none is stolen", x.spiders(5, 4, 1), 0);
        Check.due("one try each", x.spiders(5, 4, 2), 4);
        Check.due("no spiders", x.spiders(5, 0, 0), 0);
        Check.due("no spiders", x.spiders(5, 0, 2), 0);
        Check.due("nothing changed", x.count(4), 7);
        Check.due("nothing changed", x.count(6), 1);
        Check.due("nothing changed", x.count(11), 0);
        SpiderTales y = Check.of("creature 1 0 0 9 0;trick 0 0 0 0 1 3;coins 7;rival 6;");
        Check.due("stolen on the sixth day", y.spiders(5, 30, 1), 30);
        Check.due("stolen on the sixth day", y.spiders(5, 30, 0), 0);
        y.days(1);
        Check.due("on the fifth", y.spiders(5, 2, 1), 2);
        SpiderTales z = Check.of("creature 1 1 0 9 0;trick 0 1 0 0 1 3;coins 7;");
        Check.due("two tries, then it may not", z.spiders(5, 1, 2), 1);
        SpiderTales w = Check.of("creature 60 0 0 9 0;creature 1 0 0 9 0;trick 0 0 0 0 1 1;trick 0 0 0 0 2 10;coins 99;");
        for (int first = -50; first < 50; first++) {
            int seed = first;
            int[] coins = {99, 99};
            int[] caught = {0, 0};
            for (int day = 0; day < 12; day++) {
                seed = seed * 1103515245 + 12345;
                int creature = (seed >> 16 & 0x7fff) % 2;
                seed = seed * 1103515245 + 12345;
                int trick = (seed >> 16 & 0x7fff) % 2;
                if (creature == 0 || caught[day / 6] == 0) {
                    coins[day / 6] -= trick == 0 ? 1 : 10;
                    caught[day / 6] |= creature;
                }
            }
            Check.due("by the seed", w.spiders(first, 1, 2), coins[0]);
            Check.due("by the seed", w.spiders(first, 1, 0), caught[0]);
            Check.due("the seed goes on", w.spiders(first, 2, 2), Math.max(coins[0], coins[1]));
            Check.due("the seed goes on", w.spiders(first, 2, 0), caught[0] + caught[1]);
        }
        SpiderTales v = Check.of("trick 0 0 0 0 1 3;coins 7;");
        Check.due("no creatures", v.spiders(LOW, 30, 2), 7);
        Check.due("no tricks", Check.of("creature 1 0 0 0 0;coins 7;").spiders(LOW, 30, 2), 7);
        SpiderTales u = Check.of("creature 1 0 0 9 0;creature 1 0 0 8 0;trick 0 0 0 0 1 0;rival 6;");
        u.attempt(0, 0);
        u.attempt(1, 0);
        u.guard(0);
        Check.due("from how it is now, with the guard", u.spiders(FAR, 3, 0), 3);
        Check.due("from how it is now, with the guard", u.spiders(FAR, 3, 1), 3);
        Check.noSuch("what 3", () -> u.spiders(0, 31, 3));
        Check.noSuch("what -1", () -> u.spiders(0, 0, -1));
        Check.illegal("31", () -> u.spiders(0, 31, 0));
        Check.illegal("-1", () -> u.spiders(0, -1, 0));
    }

    private static void fooled() {
        Check.part("promise 32");
        SpiderTales x = Check.of(THREE);
        Check.due("all", x.fooled(0), 7);
        Check.due("all", x.fooled(1), 7);
        Check.due("none", x.fooled(2), 0);
        x.attempt(0, 1);
        Check.due("bars", x.fooled(1), 6);
        Check.due("needs", x.fooled(2), 1);
        x.attempt(2, 0);
        Check.due("free ones alone", x.fooled(0), 3);
        Check.noSuch("3", () -> x.fooled(3));
        Check.noSuch("-1", () -> x.fooled(-1));
        Check.noSuch("without creatures", () -> new SpiderTales().fooled(0));
    }

    private static void lacking() {
        Check.part("promise 33");
        SpiderTales x = Check.of("creature 1 5 0 0 0;trick 0 0 0 0 20 0;trick 15 63 0 0 0 0;trick 63 63 0 0 0 0;");
        Check.due("nothing", x.lacking(0, 0), 0);
        Check.due("1 and 3; 0 and 2", x.lacking(0, 1), 10 + 64 * 5);
        Check.due("all", x.lacking(0, 2), 58 + 64 * 5);
        x.attempt(0, 0);
        Check.due("whoever it is", x.lacking(0, 1), 10 + 64 * 5);
        Check.noSuch("creature 1", () -> x.lacking(1, 0));
        Check.noSuch("creature -1", () -> x.lacking(-1, 0));
        Check.noSuch("trick 3", () -> x.lacking(0, 3));
        Check.noSuch("trick -1", () -> x.lacking(0, -1));
    }

    private static void useless() {
        Check.part("promise 34");
        // 0 gives what 1 needs; 2 needs what none gives; 3 needs what only one who is caught by then has
        SpiderTales x = Check.of("creature 1 0 0 0 0;trick 0 0 1 0 0 20;trick 1 0 2 0 1 20;trick 32 0 0 0 1 0;"
                + "trick 2 0 0 0 0 0;coins 0;");
        Check.due("2 and 3", x.useless(), 12);
        SpiderTales y = Check.of("creature 1 0 0 0 0;creature 1 32 0 0 0;trick 0 0 1 0 1 0;trick 32 0 2 0 1 0;");
        Check.due("one for each", y.useless(), 0);
        SpiderTales z = Check.of("creature 1 32 0 0 0;creature 1 0 0 0 0;trick 0 0 1 0 1 0;trick 32 0 2 0 1 0;");
        Check.due("one for each, the other way", z.useless(), 0);
        y.attempt(1, 0);
        Check.due("free ones alone", y.useless(), 2);
        y.attempt(0, 0);
        Check.due("none is free", y.useless(), 3);
        Check.due("no creatures", Check.of("trick 0 0 0 0 1 1;").useless(), 1);
    }

    private static void firm() {
        Check.part("promise 35");
        SpiderTales x = Check.of("creature 5 3 0 0 0;trick 1 0 4 1 0 0;trick 4 0 8 0 5 0;trick 8 0 16 2 0 0;");
        Check.due("3 is had as it is caught, 4 never; 1 stays", x.firm(0), 32 + 16 + 64 * 2);
        x.tell(0, 3, true);
        Check.due("told: 4 by the third trick, 3 stays", x.firm(0), 32 + 64 * 8);
        SpiderTales y = Check.of("creature 5 63 0 0 0;creature 1 0 0 0 0;trick 0 63 0 0 5 0;");
        Check.due("all", y.firm(0), 63 * 64);
        Check.due("none", y.firm(1), 63);
        y.attempt(1, 0);
        Check.due("not free", y.firm(1), NONE);
        Check.noSuch("2", () -> y.firm(2));
        Check.noSuch("-1", () -> y.firm(-1));
    }

    private static void loot() {
        Check.part("promise 36");
        SpiderTales x = Check.of("creature 1 0 0 5 0;creature 1 0 0 9 0;creature 1 0 0 70 0;trick 0 0 0 0 1 0;rival 20;");
        x.attempt(0, 0);
        x.attempt(1, 0);
        x.attempt(2, 0);
        Check.due("0", x.loot(0), 0);
        Check.due("20", x.loot(20), 70);
        Check.due("59", x.loot(59), 79);
        Check.due("60", x.loot(60), 84);
        x.days(20);
        Check.due("of all who are stolen", x.loot(0), 70);
        Check.illegal("61", () -> x.loot(61));
        Check.illegal("-1", () -> x.loot(-1));
    }

    private static void offer() {
        Check.part("promise 37");
        SpiderTales x = Check.of(HUNT);
        Check.due("for none", x.offer(0, 0), 999);
        Check.due("for none", x.offer(0, 1), 3);
        Check.due("for 0", x.offer(1, 0), 100);
        Check.due("for 0", x.offer(1, 1), 0);
        Check.due("for 1", x.offer(2, 0), 60);
        Check.due("of like ones the least", x.offer(2, 1), 1);
        Check.noSuch("what 2", () -> x.offer(4, 2));
        Check.noSuch("what -1", () -> x.offer(0, -1));
        Check.illegal("4", () -> x.offer(4, 0));
        Check.illegal("-1", () -> x.offer(-1, 1));
        SpiderTales y = Check.of("creature 10 0 0 0 0;hunter 9 9;hunter 9 0;");
        Check.due("none", y.offer(1, 0), NONE);
        Check.due("none", y.offer(1, 1), NONE);
        SpiderTales z = Check.of("creature 9 0 0 0 0;hunter 9 0;");
        Check.due("a purse of 0", z.offer(1, 0), 0);
        Check.due("a purse of 0", z.offer(1, 1), 0);
    }

    private static void alone() {
        Check.part("promise 38");
        SpiderTales x = Check.of("tale 7;tale 6;tale 1008;tale 24;");
        Check.due("0", x.alone(0), 1);
        Check.due("1", x.alone(1), 0);
        Check.due("2", x.alone(2), 1008 - 16);
        Check.due("3", x.alone(3), 8);
        Check.noSuch("4", () -> x.alone(4));
        Check.noSuch("-1", () -> x.alone(-1));
        Check.due("one tale", Check.of("tale 1023;").alone(0), 1023);
    }

    private static void like() {
        Check.part("promise 39");
        Check.due("none", Check.of("tale 7;tale 6;").like(), 0);
        Check.due("three alike", Check.of("tale 7;tale 6;tale 7;tale 7;").like(), 3);
        Check.due("two couples", Check.of("tale 0;tale 6;tale 6;tale 0;").like(), 2);
        Check.due("eight", Check.of("tale 5;".repeat(8)).like(), 28);
    }

    private static void nearest() {
        Check.part("promise 40");
        SpiderTales x = Check.of(THREE);
        Check.due("2", x.nearest(), 2);
        x.attempt(2, 0);
        Check.due("of like ones the least", x.nearest(), 0);
        x.attempt(1, 0);
        Check.due("1 has cord already", x.nearest(), 1);
        SpiderTales y = Check.of("creature 10 0 0 0 0;creature 60 1 0 0 0;trick 1 0 0 0 1 0;");
        Check.due("1 alone has a plan", y.nearest(), 1);
        SpiderTales z = Check.of("creature 10 0 0 0 0;trick 1 0 0 0 1 0;");
        Check.due("none has one", z.nearest(), NONE);
    }

    private static void image() {
        Check.part("promise 41");
        SpiderTales x = Check.of(THREE);
        x.image();
        x.give(1);
        x.image();
        x.give(1);
        Check.due("restore()", x.restore(), true);
        Check.due("in place of another one", x.count(4), 41);
        Check.due("acts", x.count(11), 1);
    }

    private static void restore() {
        Check.part("promise 42");
        SpiderTales x = Check.of(THREE);
        Check.due("there is none", x.restore(), false);
        x.attempt(2, 0);
        x.guard(2);
        x.attempt(0, 0);
        x.attempt(1, 2);
        x.tell(1, 3, true);
        x.mark(0, 1, 2, true);
        x.image();
        x.attempt(0, 0);
        x.guard(0);
        x.days(3);
        x.tell(1, 3, false);
        x.attempt(1, 0);
        x.give(99);
        x.forget();
        x.mark(1, 1, 1, true);
        x.mark(1, 1, 1, true);
        x.give(0);
        x.mark(1, 9, 1, true);
        Check.feed(x, "x");
        Check.read(x, "x");
        for (int twice = 0; twice < 2; twice++) {
            Check.due("restore()", x.restore(), true);
            int[] due = {3, 3, 0, 0, 27, 0, 3, 4, 0, 2, 0, 5, 1, 0, 1, 1, 1};
            for (int what = 0; what < due.length; what++) {
                Check.due("count(" + what + ")", x.count(what), due[what]);
            }
            Check.due("cord", x.creature(0, 5), 5);
            Check.due("beliefs", x.creature(1, 1), 8);
            Check.due("wary", x.creature(1, 2), 1);
            Check.due("the mark", x.how(0, 1, 0), 0);
            Check.due("undo", x.undo(), 4);
            Check.due("undo", x.undo(), 3);
            Check.due("undo", x.undo(), 2);
            Check.due("undo", x.undo(), 1);
            Check.due("guarded", x.count(9), NONE);
            x.give(5);
            x.give(6);
        }
        restoreManyActs();
    }

    private static void restoreManyActs() {
        SpiderTales x = Check.of("coins 0;");
        for (int i = 1; i <= 50; i++) {
            x.give(i % 7 + 1);
        }
        int coins = x.count(4);
        x.image();
        for (int i = 0; i < 25; i++) {
            x.undo();
        }
        for (int i = 0; i < 70; i++) {
            x.give(9);
        }
        x.restore();
        Check.due("coins", x.count(4), coins);
        for (int i = 50; i > 10; i--) {
            coins -= i % 7 + 1;
            Check.due("undo", x.undo(), i - 11);
            Check.due("coins", x.count(4), coins);
        }
        Check.due("none is left", x.undo(), NONE);
    }
}
