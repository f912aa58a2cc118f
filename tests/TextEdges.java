/** Edges of promises 2 to 4 and of the text that they read: bytes, tokens, numbers, lines, rules, faults. */
public final class TextEdges {
    private static final int NONE = SpiderTales.NONE;
    private static final int FAR = Integer.MAX_VALUE;
    private static final int LOW = Integer.MIN_VALUE;

    private static final int FINE = 0;
    private static final int WRONG = 1;
    private static final int TOO_MUCH = 2;
    private static final int NO_VALUE = 3;
    private static final int AGAIN = 5;

    private static final String[] VALUES = {"cord", "strength", "wary", "beliefs", "price", "help"};
    private static final String[] NO_VALUES = {"creature", "trick", "hunter", "tale", "coins", "rival", "bound", "or",
        "and", "day", "x", "cords", "cor", "helpless", "nothing"};

    public static void main(String[] args) {
        feedFillsTheTape();
        feedTakesTheHighestByteFirst();
        skyOfSoManyBytes();
        skyThatThrows();
        skyWithFault();
        skyAnew();
        faultPlaces();
        everyByte();
        longestWords();
        blanks();
        numbersOfLines();
        numbersAsTold();
        tooManyRows();
        toldAgain();
        endsTooSoon();
        onlyNumbersInLines();
        firstAlongTheText();
        leastOfOneToken();
        numbersInRules();
        depth();
        nots();
        wordsInRules();
        signsInRules();
        wholeTape();
        Check.end("TextEdges");
    }

    // ---- promise 2

    private static void feedFillsTheTape() {
        Check.part("promise 2: none come, if it would have more than 700");
        SpiderTales x = new SpiderTales();
        Check.feed(x, " ".repeat(672) + "coins 7;");
        Check.due("680 bytes", x.count(13), 680);
        Check.due("the last twenty", x.feed(0x20202020, 0x20202020, 0x20202020, 0x20202020, 0x74616c65), 700);
        Check.due("beyond", x.feed(-1, -1, -1, -1, -1), NONE);
        Check.due("beyond again", x.feed(0x20202020, 0, 0, 0, 0), NONE);
        Check.due("bytes", x.count(13), 700);
        Check.same("STATUS", Look.status(x), "0 0 0");
        Check.due("what came last is there", x.sky(700), WRONG);
        Check.due("what came last is there", x.fault(), 700);
        Check.due("a new tape", x.feed(0, 0, 0, 0, 0), 20);
        Quiet full = new Quiet(() -> {
            SpiderTales y = Scene.richWithTape();
            y.sky(0);
            Check.feed(y, "coins 7;" + " ".repeat(672) + "tale 1023;coins");
            return y;
        });
        full.answers("feed into the full tape", y -> y.feed(0, 0, 0, 0, 0), NONE);
        SpiderTales z = new SpiderTales();
        Check.due("sky(0) of the new object", z.sky(0), FINE);
        for (int i = 1; i <= 34; i++) {
            z.feed(i, i, i, i, i);
        }
        Check.due("the 35th", z.feed(1, 2, 3, 4, 5), 700);
        Check.due("the 36th", z.feed(1, 2, 3, 4, 5), NONE);
    }

    private static void feedTakesTheHighestByteFirst() {
        Check.part("promise 2: of each number the highest first");
        int[] others = {0, 127, 128, 255, '#'};
        for (int place = 0; place < 20; place++) {
            for (int other : others) {
                int[] n = {0x20202020, 0x20202020, 0x20202020, 0x20202020, 0x20202020};
                int shift = 24 - place % 4 * 8;
                n[place / 4] = n[place / 4] & ~(255 << shift) | other << shift;
                SpiderTales x = new SpiderTales();
                Check.due("feed", x.feed(n[0], n[1], n[2], n[3], n[4]), 20);
                Check.due("a byte " + other + " at " + place, x.sky(20), WRONG);
                Check.due("a byte " + other + " at " + place, x.fault(), place);
            }
        }
    }

    // ---- promise 3

    private static void skyOfSoManyBytes() {
        Check.part("promise 3: the tape's first n bytes, it is empty then");
        SpiderTales x = new SpiderTales();
        Check.feed(x, "coins 7;tale 1;tale ");
        Check.due("none of them", x.sky(0), FINE);
        Check.due("coins", x.count(4), 50);
        Check.due("bytes", x.count(13), 0);
        Check.illegal("it is empty", () -> x.sky(1));
        Check.feed(x, "coins 7;tale 1;tale ");
        Check.due("the first 8", x.sky(8), FINE);
        Check.due("coins", x.count(4), 7);
        Check.due("tales", x.count(3), 0);
        Check.feed(x, "coins 8;tale 1;tale ");
        Check.due("the first 15", x.sky(15), FINE);
        Check.due("tales", x.count(3), 1);
        Check.feed(x, "coins 9;tale 1;tale ");
        Check.due("all of them", x.sky(20), WRONG);
        Check.due("all of them", x.fault(), 20);
        Check.due("empty behind a fault", x.count(13), 0);
        Check.due("coins stay", x.count(4), 8);
        Check.due("STATUS 0", x.count(14), 1);
    }

    private static void skyThatThrows() {
        Check.part("promise 3: the tape has not so many, n below 0 (nothing changes)");
        Quiet quiet = new Quiet(Scene::richWithTape);
        quiet.illegal("sky(-1)", x -> x.sky(-1));
        quiet.illegal("sky(LOW)", x -> x.sky(LOW));
        quiet.illegal("sky(41)", x -> x.sky(41));
        quiet.illegal("sky(FAR)", x -> x.sky(FAR));
        Quiet fresh = new Quiet(SpiderTales::new);
        fresh.illegal("sky(1)", x -> x.sky(1));
        fresh.illegal("sky(-1)", x -> x.sky(-1));
        SpiderTales y = Scene.richWithTape();
        Check.due("as many as there are", y.sky(40), FINE);
        Check.due("coins", y.count(4), 123);
    }

    private static void skyWithFault() {
        Check.part("promise 3: or the FAULT (all stays)");
        String[] texts = {"tale", "tale 9999;", "bound no;", "coins 1;coins 1;", "creature 1 1 1 1 1;trick 1 1 1 1 1 1;"
            + "hunter 1 1;tale 1;coins 1;rival 1;bound 1;bound"};
        int[] faults = {WRONG, TOO_MUCH, NO_VALUE, AGAIN, AGAIN};
        for (int i = 0; i < texts.length; i++) {
            SpiderTales x = Scene.rich();
            Check.same("STATUS", Look.status(x), "1 2 1");
            Check.due("sky of " + texts[i], Check.read(x, texts[i]), faults[i]);
            Check.due("the tape is empty", x.count(13), 0);
            Check.same("STATUS 0 alone", Look.status(x), "2 2 1");
            Check.same("all stays with " + texts[i], Look.whole(x), Look.whole(Scene.rich()));
        }
    }

    private static void skyAnew() {
        Check.part("promise 3: all anew; ACTS, MARKS, the image are gone (STATUS stays)");
        SpiderTales x = Scene.richWithTape();
        Check.due("sky(0)", x.sky(0), FINE);
        Check.same("STATUS stays", Look.status(x), "1 2 1");
        Check.due("no fault", x.fault(), NONE);
        Check.same("as a new object", Look.whole(x), Look.whole(new SpiderTales()));
        String text = "creature 20 1 2 30 5;creature 5 0 0 50 3;creature 5 2 0 10 0;creature 5 0 0 60 0;"
                + "trick 0 0 1 0 8 3;bound cord;";
        SpiderTales y = Scene.richWithTape();
        y.sky(0);
        SpiderTales z = Scene.richWithTape();
        Check.due("a sky of the tape", z.sky(40), FINE);
        Check.due("another sky", Check.read(z, text), FINE);
        Check.due("another sky", Check.read(y, text), FINE);
        Check.due("no coins told", z.count(4), 50);
        Check.due("no rival told", z.stolen(60), 0);
        Check.due("the rule", z.attempt(0, 0), 2);
        Check.due("the rule", y.attempt(0, 0), 2);
        Check.due("no image", y.restore(), false);
        Check.due("one act", y.count(11), 1);
        SpiderTales w = Check.of(text);
        w.attempt(0, 0);
        Check.same("as if it were the first", Look.whole(z), Look.whole(w));
    }

    // ---- promise 4

    private static void faultPlaces() {
        Check.part("promise 4: the place of the latest sky()'s FAULT; NONE without");
        SpiderTales x = new SpiderTales();
        Check.due("no sky yet", x.fault(), NONE);
        Check.read(x, ";");
        Check.due("at the first byte", x.fault(), 0);
        Check.read(x, " ".repeat(699) + ";");
        Check.due("at the last byte", x.fault(), 699);
        Check.read(x, "tale" + " ".repeat(696));
        Check.due("the text's length", x.fault(), 700);
        Check.illegal("sky(1)", () -> x.sky(1));
        Check.due("no sky by a call that throws", x.fault(), 700);
        Check.read(x, "tale 1;");
        Check.due("without a fault", x.fault(), NONE);
        Check.read(x, "tale 1");
        Check.due("n, not what the tape has", x.fault(), 6);
    }

    // ---- tokens

    private static boolean isLetter(int sign) {
        return sign >= 'a' && sign <= 'z';
    }

    private static boolean isDigit(int sign) {
        return sign >= '0' && sign <= '9';
    }

    private static void everyByte() {
        Check.part("terms 1: TOKENS, or is none");
        for (int sign = 0; sign < 256; sign++) {
            String one = String.valueOf((char) sign);
            boolean blank = sign == 32 || sign == 10;
            Check.fault(one, blank ? FINE : WRONG, blank ? NONE : 0);
            // behind a number in a line
            if (blank || isDigit(sign)) {
                Check.fine("coins 1" + one + ";");
            } else {
                Check.fault("coins 1" + one + ";", WRONG, sign == ';' ? 8 : 7);
            }
            // behind a number in a rule
            boolean joins = "+-*/<=".indexOf(sign) >= 0;
            if (joins || isDigit(sign)) {
                Check.fine("bound 1" + one + "1;");
            } else {
                Check.fault("bound 1" + one + "1;", WRONG, blank || sign == ';' ? 8 : 7);
            }
            everyByteAsPart(sign, one, blank);
        }
    }

    private static void everyByteAsPart(int sign, String one, boolean blank) {
        String text = "bound " + one + " 1;";
        if (blank) {
            Check.fine(text);
        } else if (isLetter(sign)) {
            Check.fault(text, NO_VALUE, 6);
        } else if (isDigit(sign)) {
            Check.fault(text, WRONG, 8);
        } else {
            Check.fault(text, WRONG, sign == '(' ? 9 : 6);
        }
    }

    private static void longestWords() {
        Check.part("terms 1: words (a .. z, the longest row)");
        String[] lines = {"creature 1 1 1 1 1;", "trick 1 1 1 1 1 1;", "hunter 1 1;", "tale 1;", "coins 1;", "rival 1;", "bound 1;"};
        for (String line : lines) {
            int space = line.indexOf(' ');
            String word = line.substring(0, space);
            String rest = line.substring(space);
            Check.fine(line);
            Check.fine(word + rest.substring(1));
            Check.fault(word + "s" + rest, WRONG, 0);
            Check.fault(word.substring(0, space - 1) + rest, WRONG, 0);
            Check.fault("a" + line, WRONG, 0);
            Check.fault(word.substring(1) + rest, WRONG, 0);
            Check.fault(word.substring(0, 2) + " " + word.substring(2) + rest, WRONG, 0);
            Check.fault(Character.toUpperCase(word.charAt(0)) + word.substring(1) + rest, WRONG, 0);
            Check.fault(word.substring(0, space - 1) + "~" + rest, WRONG, 0);
            Check.fault("x".repeat(600) + rest, WRONG, 0);
            for (int i = 0; i < word.length(); i++) {
                String other = word.substring(0, i) + (word.charAt(i) == 'z' ? 'y' : 'z') + word.substring(i + 1);
                Check.fault(other + rest, WRONG, 0);
            }
        }
    }

    private static void blanks() {
        Check.part("terms 1: blanks (32, 10) between them count for nothing");
        Check.fine("");
        Check.fine(" ");
        Check.fine("\n");
        Check.fine("\n \n\ncoins\n \n5 \n;\n\n");
        Check.fault("\n \n\ncoins\n \n1000 \n;\n\n", TOO_MUCH, 12);
        Check.fine("hunter1 2;hunter 3\n4;bound not(1)or(2)and not 3;");
        Check.fault("coins 1 0;", WRONG, 8);
        Check.fault("co ins 1;", WRONG, 0);
        Check.fault("bound 1 or2 or or;", NO_VALUE, 15);
        Check.fine("bound 1or 2;");
        Check.fault("bound 1 or2 2;", WRONG, 12);
        SpiderTales x = Check.of("coins 1;");
        Check.due("a number is a row of digits", Check.read(x, "coins 12\n;"), FINE);
        Check.due("coins", x.count(4), 12);
    }

    // ---- lines

    private static final String[] KINDS = {"creature", "trick", "hunter", "tale", "coins", "rival"};
    private static final int[][] MOST = {{60, 63, 9, 99, 9}, {63, 63, 63, 63, 20, 20}, {60, 999}, {1023}, {999}, {30}};

    private static String row(int kind, int column, String number) {
        StringBuilder text = new StringBuilder(KINDS[kind]);
        for (int i = 0; i < MOST[kind].length; i++) {
            text.append(' ').append(i == column ? number : "1");
        }
        return text + ";";
    }

    private static void numbersOfLines() {
        Check.part("terms 1: a NUMBER of 5 digits or more, or not as told");
        for (int kind = 0; kind < KINDS.length; kind++) {
            for (int column = 0; column < MOST[kind].length; column++) {
                int most = MOST[kind][column];
                int least = kind == 5 ? 1 : 0;
                int place = KINDS[kind].length() + 1 + 2 * column;
                Check.fine(row(kind, column, "" + least));
                Check.fine(row(kind, column, "" + most));
                Check.fine(row(kind, column, ("0000" + most).substring(("" + most).length())));
                Check.fault(row(kind, column, "" + (most + 1)), TOO_MUCH, place);
                Check.fault(row(kind, column, "9999"), TOO_MUCH, place);
                Check.fault(row(kind, column, "00001"), TOO_MUCH, place);
                Check.fault(row(kind, column, "10001"), TOO_MUCH, place);
                Check.fault(row(kind, column, "4294967297"), TOO_MUCH, place);
                Check.fault(row(kind, column, "0".repeat(600)), TOO_MUCH, place);
                if (least == 1) {
                    Check.fault(row(kind, column, "0"), TOO_MUCH, place);
                    Check.fault(row(kind, column, "0000"), TOO_MUCH, place);
                } else {
                    Check.fine(row(kind, column, "0000"));
                }
            }
        }
    }

    private static void numbersAsTold() {
        Check.part("terms 1: the least and the greatest of each number are kept");
        SpiderTales x = Check.of("creature 60 63 9 99 9;creature 0 0 0 0 0;trick 63 62 61 60 20 19;trick 0 0 0 0 0 0;"
                + "hunter 60 999;hunter 0 0;tale 1023;tale 0;coins 999;rival 30;");
        int[] high = {60, 63, 9, 99, 9, 0, 0};
        for (int what = 0; what < high.length; what++) {
            Check.due("creature(0, " + what + ")", x.creature(0, what), high[what]);
            Check.due("creature(1, " + what + ")", x.creature(1, what), 0);
        }
        int[] trick = {63, 62, 61, 60, 20, 19};
        for (int what = 0; what < trick.length; what++) {
            Check.due("trick(0, " + what + ")", x.trick(0, what), trick[what]);
            Check.due("trick(1, " + what + ")", x.trick(1, what), 0);
        }
        Check.due("a skill of 60", x.payers(1, 999), 1);
        Check.due("a skill of 0", x.payers(2, 0), 3);
        Check.due("a purse of 0", x.payers(2, 1), 1);
        Check.due("all parts", x.alone(0), 1023);
        Check.due("no parts", x.alone(1), 0);
        Check.due("coins", x.count(4), 999);
        Check.due("no coins", Check.of("coins 0;").count(4), 0);
        Check.due("coins without", Check.of("rival 1;").count(4), 50);
        SpiderTales y = Check.of("creature 1 0 0 0 0;trick 0 0 0 0 1 0;rival 30;");
        y.attempt(0, 0);
        Check.due("each 30 days", y.when(0), 30);
        SpiderTales z = Check.of("creature 1 0 0 0 0;trick 0 0 0 0 1 0;rival 1;");
        z.attempt(0, 0);
        Check.due("each day", z.when(0), 1);
        SpiderTales w = Check.of("creature 1 0 0 0 0;trick 0 0 0 0 1 0;");
        w.attempt(0, 0);
        Check.due("never without", w.when(0), NONE);
        for (int i = 0; i < 40; i++) {
            w.days(20);
        }
        Check.due("never without", w.count(7), 1);
    }

    private static void tooManyRows() {
        Check.part("terms 1: the first TOKEN of the 7th CREATURE, the 9th TRICK, the 7th HUNTER, the 9th TALE");
        int[] many = {6, 8, 6, 8};
        for (int kind = 0; kind < many.length; kind++) {
            String one = row(kind, -1, "");
            String full = one.repeat(many[kind]);
            SpiderTales x = Check.of(full);
            Check.due(KINDS[kind] + "s", x.count(kind), many[kind]);
            Check.due("one less", Check.of(one.repeat(many[kind] - 1)).count(kind), many[kind] - 1);
            Check.fine(full + "coins 1;bound 1;");
            Check.fault(full + one, TOO_MUCH, full.length());
            Check.fault(full + KINDS[kind], TOO_MUCH, full.length());
            Check.fault(full + " \n" + KINDS[kind] + " #", TOO_MUCH, full.length() + 2);
            Check.fault(full + "coins 1;" + one, TOO_MUCH, full.length() + 8);
            Check.fault(full + KINDS[kind] + "s", WRONG, full.length());
            Check.due("full behind a fault", Check.read(x, full), FINE);
            Check.due("full anew", x.count(kind), many[kind]);
        }
        SpiderTales y = Check.of(row(0, -1, "").repeat(6) + row(1, -1, "").repeat(8) + row(2, -1, "").repeat(6)
                + row(3, -1, "").repeat(8));
        int[] due = {6, 8, 6, 8, 50, 0, 63};
        for (int what = 0; what < due.length; what++) {
            Check.due("all full: count(" + what + ")", y.count(what), due[what]);
        }
        Check.due("none: creatures", Check.of("").count(0), 0);
    }

    private static void toldAgain() {
        Check.part("terms 1: 5 a second 'coins', 'rival', 'bound'");
        String[] lines = {"coins 1;", "rival 1;", "bound 0;"};
        for (String line : lines) {
            String word = line.substring(0, 5);
            Check.fine(line);
            Check.fault(line + line, AGAIN, 8);
            Check.fault(line + word, AGAIN, 8);
            Check.fault(line + word + " 99999;", AGAIN, 8);
            Check.fault(line + "tale 1; " + word + ";", AGAIN, 16);
            Check.fault(lines[0] + lines[1] + lines[2] + word, AGAIN, 24);
            Check.fault(lines[2] + lines[1] + lines[0] + word, AGAIN, 24);
            SpiderTales x = Check.of(line);
            Check.due("not of another text", Check.read(x, line), FINE);
            Check.due("a fault", Check.read(x, line + "#"), WRONG);
            Check.due("not of a text with a fault", Check.read(x, line), FINE);
        }
        Check.fine("coins 1;rival 1;bound 1;");
        Check.fine("tale 1;tale 1;coins 1;tale 1;rival 2;tale 1;bound 0;");
    }

    private static void endsTooSoon() {
        Check.part("terms 1: the text's length where it ends too soon");
        String[] tokens = {"creature", "60", "63", "9", "99", "9", ";", "trick", "1", "2", "3", "4", "5", "6", ";",
            "hunter", "1", "2", ";", "tale", "5", ";", "coins", "7", ";", "rival", "8", ";", "bound", "not", "cord", "<",
            "(", "strength", "+", "1", ")", "*", "2", "/", "3", "-", "wary", "and", "beliefs", "=", "price", "or", "help", ";"};
        StringBuilder text = new StringBuilder();
        for (String token : tokens) {
            text.append(token);
            boolean whole = token.equals(";");
            Check.fault(text.toString(), whole ? FINE : WRONG, whole ? NONE : text.length());
            Check.fault(text + " \n ", whole ? FINE : WRONG, whole ? NONE : text.length() + 3);
            text.append(' ');
        }
    }

    private static void onlyNumbersInLines() {
        Check.part("terms 1: a TOKEN that can't stand there, in a line");
        String[] wrong = {";", "(", ")", "+", "-", "*", "/", "<", "=", "cord", "not", "coins", "creature", "x", "#", "\t", "A"};
        for (int kind = 0; kind < KINDS.length; kind++) {
            for (int column = 0; column < MOST[kind].length; column++) {
                for (String token : wrong) {
                    int place = KINDS[kind].length() + 1 + 2 * column;
                    Check.fault(row(kind, column, token), WRONG, place);
                }
            }
            String whole = row(kind, -1, "");
            String open = whole.substring(0, whole.length() - 1);
            for (String token : wrong) {
                if (!token.equals(";")) {
                    Check.fault(open + " " + token + ";", WRONG, open.length() + 1);
                }
            }
            Check.fault(open + " 1;", WRONG, open.length() + 1);
            Check.fault(open + " 99999;", WRONG, open.length() + 1);
            Check.fault(open + " " + whole, WRONG, open.length() + 1);
            Check.fault(whole + ";", WRONG, whole.length());
            Check.fault(whole + "1;", WRONG, whole.length());
            Check.fault(whole + "99999;", WRONG, whole.length());
        }
        String[] first = {";", "(", "1", "12345", "cord", "not", "or", "and", "sky", "help"};
        for (String token : first) {
            Check.fault("\n" + token + " 1;", WRONG, 1);
        }
    }

    // ---- faults

    private static void firstAlongTheText() {
        Check.part("terms 1: FAULTS, the first along the text");
        Check.fault("coins 1000;coins;#", TOO_MUCH, 6);
        Check.fault("coins 1;coins 1000;#", AGAIN, 8);
        Check.fault("creature 61 64 10 100 10;", TOO_MUCH, 9);
        Check.fault("creature 60 64 10 100 10;", TOO_MUCH, 12);
        Check.fault("creature 60 63 10 x", TOO_MUCH, 15);
        Check.fault("creature 60 63 9 x 10;", WRONG, 17);
        Check.fault("bound day;bound;", NO_VALUE, 6);
        Check.fault("bound 1+day+99999;", NO_VALUE, 8);
        Check.fault("bound 1+99999+day;", TOO_MUCH, 8);
        Check.fault("bound 1+#+day;", WRONG, 8);
        Check.fault("bound 1;bound day;", AGAIN, 8);
        Check.fault("bound (1;bound", WRONG, 8);
        Check.fault("tale 1;".repeat(8) + "tale #", TOO_MUCH, 56);
    }

    private static void leastOfOneToken() {
        Check.part("terms 1: of one TOKEN the least");
        Check.fault("coins coins;", WRONG, 6);
        Check.fault("coins 1;rival coins;", WRONG, 14);
        Check.fault("coins 1 coins;", WRONG, 8);
        Check.fault("coins 1 99999;", WRONG, 8);
        Check.fault("99999;", WRONG, 0);
        Check.fault("bound bound;", NO_VALUE, 6);
        Check.fault("coins 1;bound coins;", NO_VALUE, 14);
        Check.fault("bound 1 bound;", WRONG, 8);
        Check.fault("bound 1 99999;", WRONG, 8);
        Check.fault("bound ((((((bound", TOO_MUCH, 12);
        Check.fault("bound ((((((99999", TOO_MUCH, 12);
        Check.fault("bound not not not not not not not", TOO_MUCH, 30);
        Check.fault("bound ((((((not not not not not not not", TOO_MUCH, 12);
    }

    // ---- rules

    private static void numbersInRules() {
        Check.part("terms 1: NUMBERS of an EXPR");
        Check.fine("bound 0;");
        Check.fine("bound 9999;");
        Check.fine("bound 0000;");
        Check.fault("bound 00000;", TOO_MUCH, 6);
        Check.fault("bound 10000;", TOO_MUCH, 6);
        Check.fault("bound 0+10000;", TOO_MUCH, 8);
        Check.fault("bound 0*(10000);", TOO_MUCH, 9);
        Check.fault("bound not 10000;", TOO_MUCH, 10);
        Check.fault("bound 1<10000;", TOO_MUCH, 8);
        Check.fault("bound 1 or 1 and 10000;", TOO_MUCH, 17);
        Check.fault("bound 4294967296;", TOO_MUCH, 6);
    }

    private static void depth() {
        Check.part("terms 1: the first TOKEN of an EXPR within 6 others (a NUMBER, any word, a parenthesis)");
        Check.fine("bound (((((1)))));");
        Check.fine("bound (((((cord)))));");
        Check.fine("bound (((((not 1)))));");
        String[] can = {"1", "12345", "cord", "day", "not", "or", "bound", "("};
        for (String token : can) {
            Check.fault("bound ((((((" + token, TOO_MUCH, 12);
            Check.fault("bound (((((1)))))+ ((((( (\n" + token + " ))))));", TOO_MUCH, 27);
            Check.fault("bound (1 or (not (1+(1<(1*(" + token, TOO_MUCH, 27);
        }
        String[] cannot = {")", "+", "-", "*", "/", "<", "=", ";", "#", "A"};
        for (String token : cannot) {
            Check.fault("bound ((((((" + token, WRONG, 12);
            Check.fault("bound (((((" + token, WRONG, 11);
        }
        Check.fault("bound ((((((", WRONG, 12);
        Check.fault("bound (((((( ", WRONG, 13);
        Check.fault("bound (((((", WRONG, 11);
        Check.fault("bound (((((day", NO_VALUE, 11);
        Check.fine("bound (((((1)))))-(((((1)))))/(((((1)))))<(((((1)))))and(((((1)))))or(((((1)))));");
        Check.fault("bound (((((1))))));", WRONG, 17);
        Check.fault("bound (((((1))));", WRONG, 16);
    }

    private static void nots() {
        Check.part("terms 1: the seventh 'not' side by side");
        String six = "not not not not not not ";
        Check.fine("bound " + six + "1;");
        Check.fine("bound " + six + "(" + six + "1);");
        Check.fine("bound " + six + "1 and " + six + "1 or " + six + "1;");
        Check.fine("bound " + six + "1<2;");
        Check.fault("bound " + six + "not 1;", TOO_MUCH, 30);
        Check.fault("bound " + six + "not", TOO_MUCH, 30);
        Check.fault("bound " + six + "\n not#", TOO_MUCH, 32);
        Check.fault("bound (" + six + "not 1);", TOO_MUCH, 31);
        Check.fault("bound 1 or " + six + "not 1;", TOO_MUCH, 35);
        Check.fault("bound 1 and " + six + "not 1;", TOO_MUCH, 36);
        Check.fault("bound " + six + "nott;", NO_VALUE, 30);
        Check.fault("bound " + six + "or;", NO_VALUE, 30);
        Check.fault("bound " + six + ";", WRONG, 30);
        Check.fault("bound " + six, WRONG, 30);
        Check.fault("bound not;", WRONG, 9);
        Check.fault("bound " + six + "1 not 1;", WRONG, 32);
    }

    private static void wordsInRules() {
        Check.part("terms 1: 3 any word where a PART must stand that is no VALUE");
        String[] ahead = {"bound ", "bound (", "bound 1+", "bound 1-", "bound 1*", "bound 1/", "bound 1<", "bound 1=",
            "bound 1 or ", "bound 1 and ", "bound not ", "bound (1+("};
        for (String begin : ahead) {
            for (String word : VALUES) {
                Check.fault(begin + word + " #", WRONG, begin.length() + word.length() + 1);
            }
            for (String word : NO_VALUES) {
                Check.fault(begin + word, NO_VALUE, begin.length());
                Check.fault(begin + word + " 1;", NO_VALUE, begin.length());
            }
            boolean mayBeNot = "+-*/<=".indexOf(begin.charAt(begin.length() - 1)) < 0;
            Check.fault(begin + "not #", mayBeNot ? WRONG : NO_VALUE, begin.length() + (mayBeNot ? 4 : 0));
            Check.fault(begin + "not day", NO_VALUE, begin.length() + (mayBeNot ? 4 : 0));
        }
        // behind a part there is no place for another one
        for (String word : VALUES) {
            Check.fault("bound 1 " + word + ";", WRONG, 8);
            Check.fault("bound cord " + word + ";", WRONG, 11);
            Check.fault("bound (1) " + word + ";", WRONG, 10);
        }
        for (String word : NO_VALUES) {
            if (!word.equals("or") && !word.equals("and")) {
                Check.fault("bound 1 " + word + ";", WRONG, 8);
            }
        }
        for (String word : VALUES) {
            Check.fault("bound " + word + "s;", NO_VALUE, 6);
            Check.fault("bound " + word.substring(1) + ";", NO_VALUE, 6);
            Check.fault("bound " + word.substring(0, word.length() - 1) + "z;", NO_VALUE, 6);
        }
    }

    private static void signsInRules() {
        Check.part("terms 1: a TOKEN that can't stand there, in an EXPR");
        String[] ahead = {"bound ", "bound (", "bound 1+", "bound 1-", "bound 1*", "bound 1/", "bound 1<", "bound 1=",
            "bound 1 or ", "bound 1 and ", "bound not "};
        String[] noPart = {")", "+", "-", "*", "/", "<", "=", ";", "#"};
        for (String begin : ahead) {
            for (String token : noPart) {
                Check.fault(begin + token + "1;", WRONG, begin.length());
            }
            Check.fault(begin, WRONG, begin.length());
        }
        Check.fault("bound 1<2<3;", WRONG, 9);
        Check.fault("bound 1<2=3;", WRONG, 9);
        Check.fault("bound 1=2<3;", WRONG, 9);
        Check.fine("bound 1<2 and 2<3 or 3=4;");
        Check.fine("bound (1<2)<3;");
        Check.fault("bound 1(2);", WRONG, 7);
        Check.fault("bound (1)(2);", WRONG, 9);
        Check.fault("bound 1 2;", WRONG, 8);
        Check.fault("bound (1;2);", WRONG, 8);
        Check.fault("bound 1;);", WRONG, 8);
        Check.fault("bound ();", WRONG, 7);
    }

    private static void wholeTape() {
        Check.part("terms 1: a TEXT of at most 700 bytes");
        Check.fine("bound 1" + "+1".repeat(346) + ";");
        Check.fault("bound 1" + "+1".repeat(346) + "+", WRONG, 700);
        Check.fault("bound 11" + "+1".repeat(346), WRONG, 700);
        Check.fine("bound" + " ".repeat(693) + "1;");
        Check.fault("bound" + " ".repeat(694) + "1", WRONG, 700);
        String ahead = "creature 9 0 0 0 0;trick 0 0 0 0 1 0;bound 7" + "-1".repeat(323);
        Check.due("7 less 323 and 317", Check.of(ahead + "+317;     ").attempt(0, 0), 2);
        Check.due("7 less 323 and 316", Check.of(ahead + "+316;     ").attempt(0, 0), 1);
    }
}
