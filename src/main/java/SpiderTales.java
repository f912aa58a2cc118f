import java.util.Arrays;
import java.util.NoSuchElementException;

/** Creatures, tricks, a rival, hunters and tales, as ../shared/DOC.md promises them. */
public final class SpiderTales {
    public static final int NONE = -1;

    private static final int NO_WAY = -2;
    private static final int TEXT_BYTES = 700;
    private static final int FED_BYTES = 20;

    private static final int BELIEFS = 6;
    private static final int BELIEF_SETS = 64;
    private static final int MOST_CREATURES = 6;
    private static final int MOST_TRICKS = 8;
    private static final int MOST_HUNTERS = 6;
    private static final int MOST_TALES = 8;
    private static final int MOST_CORD = 60;
    private static final int MOST_WARY = 9;
    private static final int MOST_COINS = 999;
    private static final int MOST_DAY = 999;
    private static final int MOST_PRICE = 999;
    private static final int MOST_AHEAD = 60;
    private static final int MOST_ACTS = 40;
    private static final int MOST_MARKS = 8;
    private static final int MOST_STEPS = 4;
    private static final int MOST_SPIDERS = 30;
    private static final int MOST_RIVAL = 30;
    private static final int FIRST_COINS = 50;

    private static final int STRENGTH = 0;
    private static final int FIRST_BELIEFS = 1;
    private static final int FIRST_WARY = 2;
    private static final int PRICE = 3;
    private static final int HELP = 4;
    private static final int[] CREATURE_LIMITS = {60, 63, 9, 99, 9};

    private static final int NEEDS = 0;
    private static final int BARS = 1;
    private static final int GIVES = 2;
    private static final int TAKES = 3;
    private static final int CORD = 4;
    private static final int COST = 5;
    private static final int[] TRICK_LIMITS = {63, 63, 63, 63, 20, 20};

    private static final int SKILL = 0;
    private static final int PURSE = 1;
    private static final int[] HUNTER_LIMITS = {60, 999};

    private static final int PARTS = 0;
    private static final int[] TALE_LIMITS = {1023};

    private static final int FREE = 0;
    private static final int CAUGHT = 1;
    private static final int STOLEN = 2;

    private static final int OF_TEXTS = 0;
    private static final int OF_ACTS = 1;
    private static final int OF_MARKS = 2;

    private final byte[] tape = new byte[TEXT_BYTES];
    private int taped = 0;
    private int faultPlace = NONE;
    private final int[] refused = new int[3];

    private final Sky sky = new Sky();
    private final Sky draft = new Sky();
    private final Reader reader = new Reader(tape, draft);
    private final World world = new World(sky);
    private final World kept = new World(sky);
    private boolean imaged = false;

    private final Search search = new Search(sky);
    private final Orders orders = new Orders(sky, world.state, search);
    private final Rows rows = new Rows(sky, world);
    private final Future future = new Future(sky, world.state);

    public SpiderTales() {
    }

    public int feed(int a, int b, int c, int d, int e) {
        if (taped + FED_BYTES > TEXT_BYTES) {
            return NONE;
        }
        putBytes(a);
        putBytes(b);
        putBytes(c);
        putBytes(d);
        putBytes(e);
        return taped;
    }

    private void putBytes(int number) {
        for (int shift = 24; shift >= 0 && taped < TEXT_BYTES; shift -= 8) {
            tape[taped] = (byte) (number >> shift);
            taped++;
        }
    }

    public int sky(int n) throws IllegalArgumentException {
        if (n < 0 || n > taped) {
            throw new IllegalArgumentException();
        }
        taped = 0;
        int kind = reader.read(n);
        faultPlace = reader.faultPlace();
        if (kind != 0) {
            refused[OF_TEXTS]++;
            return kind;
        }
        sky.copyFrom(draft);
        world.begin();
        imaged = false;
        return 0;
    }

    public int fault() {
        return faultPlace;
    }

    public int count(int what) throws NoSuchElementException {
        switch (what) {
            case 0: return sky.creatures.size();
            case 1: return sky.tricks.size();
            case 2: return sky.hunters.size();
            case 3: return sky.tales.size();
            case 4: return world.state.coins();
            case 5: return world.state.dayNow();
            case 6: return world.state.bitsOf(FREE);
            case 7: return world.state.bitsOf(CAUGHT);
            case 8: return world.state.bitsOf(STOLEN);
            case 9: return world.state.guarded();
            case 10: return world.state.helpThere();
            case 11: return world.acts();
            case 12: return world.marks();
            case 13: return taped;
            case 14: return refused[OF_TEXTS];
            case 15: return refused[OF_ACTS];
            case 16: return refused[OF_MARKS];
            default: throw new NoSuchElementException();
        }
    }

    public int creature(int creature, int what) throws NoSuchElementException {
        checkCreature(creature);
        switch (what) {
            case 0: return sky.creatures.get(creature, STRENGTH);
            case 1: return world.state.beliefs(creature);
            case 2: return world.state.wary(creature);
            case 3: return sky.creatures.get(creature, PRICE);
            case 4: return sky.creatures.get(creature, HELP);
            case 5: return world.state.cordOn(creature);
            case 6: return world.state.fate(creature);
            case 7: return isFree(creature) ? sky.keys(world.state.beliefs(creature)) : 0;
            default: throw new NoSuchElementException();
        }
    }

    public int trick(int trick, int what) throws NoSuchElementException {
        checkTrick(trick);
        if (what < 0 || what > COST) {
            throw new NoSuchElementException();
        }
        return sky.tricks.get(trick, what);
    }

    public int attempt(int creature, int trick) throws NoSuchElementException {
        checkCreature(creature);
        checkTrick(trick);
        if (!world.state.mayTry(creature, trick)) {
            return refuseAct();
        }
        world.remember();
        return world.state.tryTrick(creature, trick);
    }

    public int days(int many) {
        if (many < 1 || many > 20 || world.state.dayNow() + many > MOST_DAY) {
            return refuseAct();
        }
        world.remember();
        for (int i = 0; i < many; i++) {
            world.state.passDay();
        }
        return world.state.dayNow();
    }

    public boolean guard(int creature) throws NoSuchElementException {
        checkCreature(creature);
        if (world.state.fate(creature) != CAUGHT || world.state.guarded() == creature) {
            refuseAct();
            return false;
        }
        world.remember();
        world.state.setGuarded(creature);
        return true;
    }

    public int give(int coins) {
        if (coins < 1 || coins > 99) {
            return refuseAct();
        }
        world.remember();
        world.state.setCoins(Math.min(MOST_COINS, world.state.coins() + coins));
        return world.state.coins();
    }

    public int tell(int creature, int belief, boolean has) throws NoSuchElementException {
        checkCreature(creature);
        checkBelief(belief);
        int before = world.state.beliefs(creature);
        int behind = has ? before | 1 << belief : before & ~(1 << belief);
        if (!isFree(creature) || behind == before) {
            return refuseAct();
        }
        world.remember();
        world.state.setBeliefs(creature, behind);
        return behind;
    }

    public int undo() {
        return world.takeBack() ? world.acts() : NONE;
    }

    public int plan(int creature, int i) throws NoSuchElementException {
        checkCreature(creature);
        if (i < NONE) {
            throw new NoSuchElementException();
        }
        int tries = isFree(creature) ? fewestNow(creature) : 0;
        if (tries == 0) {
            return NO_WAY;
        }
        if (i >= tries) {
            throw new NoSuchElementException();
        }
        return i == NONE ? tries : search.trickOf(i, tries);
    }

    public int cheapest(int creature) throws NoSuchElementException {
        checkCreature(creature);
        if (!isFree(creature)) {
            return NONE;
        }
        search.startAt(world.state, creature, world.state.helpThere());
        return search.leastCost();
    }

    public boolean canBelieve(int creature, int all, int none)
            throws NoSuchElementException, IllegalArgumentException {
        checkCreature(creature);
        if (!isBeliefSet(all) || !isBeliefSet(none) || (all & none) != 0) {
            throw new IllegalArgumentException();
        }
        if (!isFree(creature)) {
            return false;
        }
        spreadFrom(creature);
        return (search.reached() & setsWith(all, none)) != 0;
    }

    public int order(int i) throws NoSuchElementException {
        int free = world.state.bitsOf(FREE);
        if (i < NONE || i >= Integer.bitCount(free)) {
            throw new NoSuchElementException();
        }
        int tries = orders.solve(free);
        if (tries == NONE) {
            return NO_WAY;
        }
        return i == NONE ? tries : orders.creatureOf(i);
    }

    public int stolen(int days) throws IllegalArgumentException {
        checkAhead(days, 0);
        return future.stolenIn(days);
    }

    public int cord(int creature, int days) throws NoSuchElementException, IllegalArgumentException {
        checkCreature(creature);
        checkAhead(days, 0);
        int now = world.state.cordOn(creature);
        return isFree(creature) ? Math.max(0, now - days) : now;
    }

    public int when(int creature) throws NoSuchElementException {
        checkCreature(creature);
        return future.whenStolen(creature);
    }

    public int toGuard(int days) throws IllegalArgumentException {
        checkAhead(days, 1);
        return future.bestGuard(days);
    }

    public int payers(int creatures, int price) throws IllegalArgumentException {
        checkCreatureSet(creatures);
        if (price < 0 || price > MOST_PRICE) {
            throw new IllegalArgumentException();
        }
        return sky.payersOf(creatures, price);
    }

    public int few(int creatures, int hunters) throws IllegalArgumentException {
        checkCreatureSet(creatures);
        if (hunters < 0 || hunters > 5) {
            throw new IllegalArgumentException();
        }
        return sky.priceForFew(creatures, hunters);
    }

    public int tellers() {
        return sky.fewestTales();
    }

    public int borrowed(int tale, int what) throws NoSuchElementException {
        checkTale(tale);
        checkWhat(what, 1);
        int lender = sky.lender(tale);
        if (what == 1) {
            return lender;
        }
        return lender == NONE ? 0 : sky.sharedParts(tale, lender);
    }

    public int mark(int creature, int step, int belief, boolean has) throws NoSuchElementException {
        checkCreature(creature);
        checkBelief(belief);
        if (step < 1 || step > MOST_STEPS || world.marks() >= MOST_MARKS) {
            refused[OF_MARKS]++;
            return NONE;
        }
        world.addMark(creature, step, belief, has);
        return world.marks();
    }

    public void forget() {
        world.dropMarks();
    }

    public int how(int creature, int tries, int what)
            throws NoSuchElementException, IllegalArgumentException {
        checkCreature(creature);
        checkWhat(what, 1);
        checkTries(tries);
        rows.solve(creature, tries);
        return what == 0 ? rows.many() : rows.firstRow();
    }

    public int next(int creature, int tries, int what)
            throws NoSuchElementException, IllegalArgumentException {
        checkCreature(creature);
        checkWhat(what, 1);
        checkTries(tries);
        rows.solve(creature, tries);
        int step = rows.tellingStep();
        if (what == 0) {
            return step;
        }
        return step == NONE ? 0 : rows.unlikeBehind(step);
    }

    public int game(int hunter, int other, int creature, int what)
            throws NoSuchElementException, IllegalArgumentException {
        checkHunter(hunter);
        checkHunter(other);
        checkCreature(creature);
        checkWhat(what, 1);
        if (hunter == other) {
            throw new IllegalArgumentException();
        }
        return what == 0 ? sky.manyResting(hunter, other, creature)
                : sky.firstResting(hunter, other, creature);
    }

    public int spiders(int seed, int many, int what)
            throws NoSuchElementException, IllegalArgumentException {
        checkWhat(what, 2);
        if (many < 0 || many > MOST_SPIDERS) {
            throw new IllegalArgumentException();
        }
        return future.letSpidersGo(seed, many, what);
    }

    public int fooled(int trick) throws NoSuchElementException {
        checkTrick(trick);
        int bits = 0;
        for (int c = 0; c < sky.creatures.size(); c++) {
            if (isFree(c) && sky.works(trick, world.state.beliefs(c))) {
                bits |= 1 << c;
            }
        }
        return bits;
    }

    public int lacking(int creature, int trick) throws NoSuchElementException {
        checkCreature(creature);
        checkTrick(trick);
        int beliefs = world.state.beliefs(creature);
        int lacks = sky.tricks.get(trick, NEEDS) & ~beliefs;
        int hinders = sky.tricks.get(trick, BARS) & beliefs;
        return lacks | hinders << BELIEFS;
    }

    public int useless() {
        int worked = 0;
        for (int c = 0; c < sky.creatures.size(); c++) {
            if (isFree(c)) {
                spreadFrom(c);
                worked |= search.worked();
            }
        }
        return sky.tricks.all() & ~worked;
    }

    public int firm(int creature) throws NoSuchElementException {
        checkCreature(creature);
        if (!isFree(creature)) {
            return NONE;
        }
        spreadFrom(creature);
        int bits = 0;
        for (int belief = 0; belief < BELIEFS; belief++) {
            if ((search.reached() & setsWith(1 << belief, 0)) == 0) {
                bits |= 1 << belief;
            }
            if ((search.reached() & setsWith(0, 1 << belief)) == 0) {
                bits |= 1 << BELIEFS + belief;
            }
        }
        return bits;
    }

    public int loot(int days) throws IllegalArgumentException {
        checkAhead(days, 0);
        return sky.priceOf(future.stolenIn(days));
    }

    public int offer(int creatures, int what) throws NoSuchElementException, IllegalArgumentException {
        checkWhat(what, 1);
        checkCreatureSet(creatures);
        int best = sky.richest(creatures);
        if (best == NONE || what == 1) {
            return best;
        }
        return sky.hunters.get(best, PURSE);
    }

    public int alone(int tale) throws NoSuchElementException {
        checkTale(tale);
        return sky.partsAlone(tale);
    }

    public int like() {
        return sky.likeCouples();
    }

    public int nearest() {
        int best = NONE;
        int fewest = 0;
        for (int c = 0; c < sky.creatures.size(); c++) {
            int tries = isFree(c) ? fewestNow(c) : 0;
            if (tries > 0 && (best == NONE || tries < fewest)) {
                best = c;
                fewest = tries;
            }
        }
        return best;
    }

    public void image() {
        kept.copyFrom(world);
        imaged = true;
    }

    public boolean restore() {
        if (imaged) {
            world.copyFrom(kept);
        }
        return imaged;
    }

    private boolean isFree(int creature) {
        return world.state.fate(creature) == FREE;
    }

    private int refuseAct() {
        refused[OF_ACTS]++;
        return NONE;
    }

    private int fewestNow(int creature) {
        search.startAt(world.state, creature, world.state.helpThere());
        return search.fewestTries();
    }

    private void spreadFrom(int creature) {
        search.startAt(world.state, creature, world.state.helpThere());
        search.spread();
    }

    private static boolean isBeliefSet(int bits) {
        return bits >= 0 && bits < BELIEF_SETS;
    }

    /** All sets of beliefs that have all of one set and none of another, a bit for each. */
    private static long setsWith(int all, int none) {
        long sets = 0;
        for (int set = 0; set < BELIEF_SETS; set++) {
            if ((set & all) == all && (set & none) == 0) {
                sets |= 1L << set;
            }
        }
        return sets;
    }

    private void checkCreature(int creature) {
        if (!sky.creatures.has(creature)) {
            throw new NoSuchElementException();
        }
    }

    private void checkTrick(int trick) {
        if (!sky.tricks.has(trick)) {
            throw new NoSuchElementException();
        }
    }

    private void checkHunter(int hunter) {
        if (!sky.hunters.has(hunter)) {
            throw new NoSuchElementException();
        }
    }

    private void checkTale(int tale) {
        if (!sky.tales.has(tale)) {
            throw new NoSuchElementException();
        }
    }

    private void checkBelief(int belief) {
        if (belief < 0 || belief >= BELIEFS) {
            throw new NoSuchElementException();
        }
    }

    private void checkWhat(int what, int last) {
        if (what < 0 || what > last) {
            throw new NoSuchElementException();
        }
    }

    private void checkTries(int tries) {
        if (tries < 1 || tries > MOST_STEPS) {
            throw new IllegalArgumentException();
        }
    }

    private void checkAhead(int days, int least) {
        if (days < least || days > MOST_AHEAD) {
            throw new IllegalArgumentException();
        }
    }

    private void checkCreatureSet(int creatures) {
        if ((creatures & ~sky.creatures.all()) != 0) {
            throw new IllegalArgumentException();
        }
    }

    /** The tokens of a text, one at a time. */
    private static final class Tokens {
        static final int END = 0;
        static final int NO_TOKEN = 1;
        static final int NUMBER = 2;
        static final int WORD = 100;
        static final int CREATURE_WORD = 101;
        static final int TRICK_WORD = 102;
        static final int HUNTER_WORD = 103;
        static final int TALE_WORD = 104;
        static final int COINS_WORD = 105;
        static final int RIVAL_WORD = 106;
        static final int BOUND_WORD = 107;
        static final int OR_WORD = 108;
        static final int AND_WORD = 109;
        static final int NOT_WORD = 110;
        static final int FIRST_VALUE = 111;
        static final int LAST_VALUE = 116;
        static final int MOST_DIGITS = 4;

        private final byte[] text;
        private int length = 0;
        private int start = 0;
        private int behind = 0;
        private int kind = END;
        private int value = 0;
        private int digits = 0;

        Tokens(byte[] text) {
            this.text = text;
        }

        void open(int many) {
            length = Math.max(0, Math.min(many, text.length));
            behind = 0;
            step();
        }

        int kind() {
            return kind;
        }

        int start() {
            return start;
        }

        int value() {
            return value;
        }

        boolean isWord() {
            return kind >= WORD;
        }

        boolean isValue() {
            return kind >= FIRST_VALUE && kind <= LAST_VALUE;
        }

        boolean hasTooManyDigits() {
            return digits > MOST_DIGITS;
        }

        void step() {
            for (; behind < length && isBlank(text[behind]); behind++) {
            }
            start = behind;
            if (start >= length) {
                kind = END;
            } else if (isDigit(text[start])) {
                readNumber();
            } else if (isLetter(text[start])) {
                readWord();
            } else {
                kind = isSign(text[start]) ? text[start] : NO_TOKEN;
                behind++;
            }
        }

        private void readNumber() {
            kind = NUMBER;
            value = 0;
            digits = 0;
            for (; behind < length && isDigit(text[behind]); behind++) {
                digits++;
                // more digits are a fault whatever they say, and would overflow
                if (digits <= MOST_DIGITS) {
                    value = value * 10 + (text[behind] - '0');
                }
            }
        }

        private void readWord() {
            for (; behind < length && isLetter(text[behind]); behind++) {
            }
            kind = spells("creature") ? CREATURE_WORD
                    : spells("trick") ? TRICK_WORD
                    : spells("hunter") ? HUNTER_WORD
                    : spells("tale") ? TALE_WORD
                    : spells("coins") ? COINS_WORD
                    : spells("rival") ? RIVAL_WORD
                    : spells("bound") ? BOUND_WORD
                    : spells("or") ? OR_WORD
                    : spells("and") ? AND_WORD
                    : spells("not") ? NOT_WORD
                    : spells("cord") ? FIRST_VALUE + Rule.OF_CORD
                    : spells("strength") ? FIRST_VALUE + Rule.OF_STRENGTH
                    : spells("wary") ? FIRST_VALUE + Rule.OF_WARY
                    : spells("beliefs") ? FIRST_VALUE + Rule.OF_BELIEFS
                    : spells("price") ? FIRST_VALUE + Rule.OF_PRICE
                    : spells("help") ? FIRST_VALUE + Rule.OF_HELP
                    : WORD;
        }

        private boolean spells(String word) {
            if (behind - start != word.length()) {
                return false;
            }
            for (int i = 0; i < word.length(); i++) {
                if (text[start + i] != word.charAt(i)) {
                    return false;
                }
            }
            return true;
        }

        private static boolean isBlank(int sign) {
            return sign == ' ' || sign == '\n';
        }

        private static boolean isDigit(int sign) {
            return sign >= '0' && sign <= '9';
        }

        private static boolean isLetter(int sign) {
            return sign >= 'a' && sign <= 'z';
        }

        private static boolean isSign(int sign) {
            switch (sign) {
                case ';':
                case '(':
                case ')':
                case '+':
                case '-':
                case '*':
                case '/':
                case '<':
                case '=':
                    return true;
                default:
                    return false;
            }
        }
    }

    /** Reads a text into a sky, up to its first fault. */
    private static final class Reader {
        static final int WRONG = 1;
        static final int TOO_MUCH = 2;
        static final int NO_VALUE = 3;
        static final int AGAIN = 5;
        static final int MOST_DEPTH = 6;
        static final int MOST_NOTS = 6;
        static final int MOST_NUMBER = 9999;

        private final Tokens tokens;
        private final Sky sky;
        private int kind = 0;
        private int place = NONE;
        private boolean coinsTold = false;
        private boolean rivalTold = false;

        Reader(byte[] text, Sky into) {
            tokens = new Tokens(text);
            sky = into;
        }

        /** The fault's kind, or 0. */
        int read(int length) {
            kind = 0;
            place = NONE;
            coinsTold = false;
            rivalTold = false;
            sky.clear();
            tokens.open(length);
            for (int i = 0; i < TEXT_BYTES && kind == 0 && tokens.kind() != Tokens.END; i++) {
                switch (tokens.kind()) {
                    case Tokens.CREATURE_WORD:
                        readRow(sky.creatures);
                        break;
                    case Tokens.TRICK_WORD:
                        readRow(sky.tricks);
                        break;
                    case Tokens.HUNTER_WORD:
                        readRow(sky.hunters);
                        break;
                    case Tokens.TALE_WORD:
                        readRow(sky.tales);
                        break;
                    case Tokens.COINS_WORD:
                        readCoins();
                        break;
                    case Tokens.RIVAL_WORD:
                        readRival();
                        break;
                    case Tokens.BOUND_WORD:
                        readBound();
                        break;
                    default:
                        refuse(WRONG);
                        break;
                }
                expect(';');
            }
            return kind;
        }

        int faultPlace() {
            return place;
        }

        private void refuse(int fault) {
            if (kind == 0) {
                kind = fault;
                place = tokens.start();
            }
        }

        private void readRow(Table table) {
            if (table.isFull()) {
                refuse(TOO_MUCH);
                return;
            }
            tokens.step();
            for (int column = 0; column < table.width() && kind == 0; column++) {
                table.put(column, readNumber(0, table.limit(column)));
            }
            table.endRow();
        }

        private void readCoins() {
            if (coinsTold) {
                refuse(AGAIN);
                return;
            }
            coinsTold = true;
            tokens.step();
            sky.setCoins(readNumber(0, MOST_COINS));
        }

        private void readRival() {
            if (rivalTold) {
                refuse(AGAIN);
                return;
            }
            rivalTold = true;
            tokens.step();
            sky.setRival(readNumber(1, MOST_RIVAL));
        }

        private void readBound() {
            if (!sky.rule.isEmpty()) {
                refuse(AGAIN);
                return;
            }
            tokens.step();
            readOr(0);
        }

        private int readNumber(int least, int most) {
            if (tokens.kind() != Tokens.NUMBER) {
                refuse(WRONG);
                return 0;
            }
            int value = tokens.value();
            if (tokens.hasTooManyDigits() || value < least || value > most) {
                refuse(TOO_MUCH);
                return 0;
            }
            tokens.step();
            return value;
        }

        private void expect(int sign) {
            if (kind != 0) {
                return;
            }
            if (tokens.kind() == sign) {
                tokens.step();
            } else {
                refuse(WRONG);
            }
        }

        /** An expression that stands within so many others. */
        private void readOr(int depth) {
            if (depth >= MOST_DEPTH) {
                refuse(canBeginExpression() ? TOO_MUCH : WRONG);
                return;
            }
            readAnd(depth);
            for (int i = 0; i < TEXT_BYTES && kind == 0 && tokens.kind() == Tokens.OR_WORD; i++) {
                tokens.step();
                readAnd(depth);
                sky.rule.add(Rule.OR);
            }
        }

        private boolean canBeginExpression() {
            return tokens.kind() == Tokens.NUMBER || tokens.isWord() || tokens.kind() == '(';
        }

        private void readAnd(int depth) {
            readNot(depth);
            for (int i = 0; i < TEXT_BYTES && kind == 0 && tokens.kind() == Tokens.AND_WORD; i++) {
                tokens.step();
                readNot(depth);
                sky.rule.add(Rule.AND);
            }
        }

        private void readNot(int depth) {
            int nots = 0;
            for (; nots < MOST_NOTS && tokens.kind() == Tokens.NOT_WORD; nots++) {
                tokens.step();
            }
            if (nots == MOST_NOTS && tokens.kind() == Tokens.NOT_WORD) {
                refuse(TOO_MUCH);
                return;
            }
            readTest(depth);
            for (int i = 0; i < nots; i++) {
                sky.rule.add(Rule.NOT);
            }
        }

        private void readTest(int depth) {
            readSum(depth);
            int sign = tokens.kind();
            if (kind == 0 && (sign == '<' || sign == '=')) {
                tokens.step();
                readSum(depth);
                sky.rule.add(sign == '<' ? Rule.LESS : Rule.SAME);
            }
        }

        private void readSum(int depth) {
            readProduct(depth);
            for (int i = 0; i < TEXT_BYTES && kind == 0; i++) {
                int sign = tokens.kind();
                if (sign != '+' && sign != '-') {
                    return;
                }
                tokens.step();
                readProduct(depth);
                sky.rule.add(sign == '+' ? Rule.PLUS : Rule.MINUS);
            }
        }

        private void readProduct(int depth) {
            readPart(depth);
            for (int i = 0; i < TEXT_BYTES && kind == 0; i++) {
                int sign = tokens.kind();
                if (sign != '*' && sign != '/') {
                    return;
                }
                tokens.step();
                readPart(depth);
                sky.rule.add(sign == '*' ? Rule.TIMES : Rule.OVER);
            }
        }

        private void readPart(int depth) {
            if (kind != 0) {
                return;
            }
            if (tokens.kind() == Tokens.NUMBER) {
                sky.rule.add(readNumber(0, MOST_NUMBER));
            } else if (tokens.isValue()) {
                sky.rule.add(Rule.FIRST_VALUE - (tokens.kind() - Tokens.FIRST_VALUE));
                tokens.step();
            } else if (tokens.isWord()) {
                refuse(NO_VALUE);
            } else if (tokens.kind() == '(') {
                tokens.step();
                readOr(depth + 1);
                expect(')');
            } else {
                refuse(WRONG);
            }
        }
    }

    /** The rule by which one is bound: numbers, values and signs, each behind what it joins. */
    private static final class Rule {
        static final int OF_CORD = 0;
        static final int OF_STRENGTH = 1;
        static final int OF_WARY = 2;
        static final int OF_BELIEFS = 3;
        static final int OF_PRICE = 4;
        static final int OF_HELP = 5;
        static final int VALUES = 6;

        // a number stands for itself; values go down from here, the signs lie below them
        static final int FIRST_VALUE = -1;
        static final int LAST_VALUE = -6;
        static final int OR = -10;
        static final int AND = -11;
        static final int NOT = -12;
        static final int LESS = -13;
        static final int SAME = -14;
        static final int PLUS = -15;
        static final int MINUS = -16;
        static final int TIMES = -17;
        static final int OVER = -18;

        // six expressions within one another leave at most five numbers waiting each
        static final int MOST_WAITING = 40;

        private final int[] code = new int[TEXT_BYTES];
        private final int[] values = new int[VALUES];
        private final int[] waiting = new int[MOST_WAITING];
        private int size = 0;

        boolean isEmpty() {
            return size == 0;
        }

        void clear() {
            size = 0;
        }

        void add(int step) {
            if (size < code.length) {
                code[size] = step;
                size++;
            }
        }

        void copyFrom(Rule other) {
            size = other.size;
            System.arraycopy(other.code, 0, code, 0, size);
        }

        int worth(int cord, int strength, int wary, int beliefs, int price, int help) {
            values[OF_CORD] = cord;
            values[OF_STRENGTH] = strength;
            values[OF_WARY] = wary;
            values[OF_BELIEFS] = beliefs;
            values[OF_PRICE] = price;
            values[OF_HELP] = help;
            int top = -1;
            for (int i = 0; i < size; i++) {
                int step = code[i];
                if (step >= LAST_VALUE && top < MOST_WAITING - 1) {
                    top++;
                    waiting[top] = step >= 0 ? step : values[FIRST_VALUE - step];
                } else if (step == NOT && top >= 0) {
                    waiting[top] = waiting[top] == 0 ? 1 : 0;
                } else if (top >= 1) {
                    top--;
                    int a = waiting[top];
                    int b = waiting[top + 1];
                    switch (step) {
                        case OR: waiting[top] = a != 0 || b != 0 ? 1 : 0; break;
                        case AND: waiting[top] = a != 0 && b != 0 ? 1 : 0; break;
                        case LESS: waiting[top] = a < b ? 1 : 0; break;
                        case SAME: waiting[top] = a == b ? 1 : 0; break;
                        case PLUS: waiting[top] = a + b; break;
                        case MINUS: waiting[top] = a - b; break;
                        case TIMES: waiting[top] = a * b; break;
                        default: waiting[top] = b == 0 ? 0 : a / b; break;
                    }
                }
            }
            return top >= 0 ? waiting[top] : 0;
        }
    }

    /** Rows of numbers, each column with a greatest one. */
    private static final class Table {
        private final int[] limits;
        private final int[] cells;
        private final int most;
        private int size = 0;

        Table(int most, int[] limits) {
            this.most = most;
            this.limits = limits;
            cells = new int[most * limits.length];
        }

        int size() {
            return size;
        }

        int width() {
            return limits.length;
        }

        int limit(int column) {
            return limits[column];
        }

        boolean isFull() {
            return size >= most;
        }

        boolean has(int row) {
            return row >= 0 && row < size;
        }

        /** Every row, as bits. */
        int all() {
            return (1 << size) - 1;
        }

        int get(int row, int column) {
            return cells[row * limits.length + column];
        }

        void clear() {
            size = 0;
        }

        /** Into the row behind the last one. */
        void put(int column, int value) {
            if (size < most) {
                cells[size * limits.length + column] = value;
            }
        }

        void endRow() {
            if (size < most) {
                size++;
            }
        }

        void copyFrom(Table other) {
            size = other.size;
            System.arraycopy(other.cells, 0, cells, 0, cells.length);
        }
    }

    /** What a text tells, and what follows from it alone. */
    private static final class Sky {
        private final Table creatures = new Table(MOST_CREATURES, CREATURE_LIMITS);
        private final Table tricks = new Table(MOST_TRICKS, TRICK_LIMITS);
        private final Table hunters = new Table(MOST_HUNTERS, HUNTER_LIMITS);
        private final Table tales = new Table(MOST_TALES, TALE_LIMITS);
        private final Rule rule = new Rule();
        private int startCoins = FIRST_COINS;
        private int rivalDays = 0;

        void clear() {
            creatures.clear();
            tricks.clear();
            hunters.clear();
            tales.clear();
            rule.clear();
            startCoins = FIRST_COINS;
            rivalDays = 0;
        }

        void copyFrom(Sky other) {
            creatures.copyFrom(other.creatures);
            tricks.copyFrom(other.tricks);
            hunters.copyFrom(other.hunters);
            tales.copyFrom(other.tales);
            rule.copyFrom(other.rule);
            startCoins = other.startCoins;
            rivalDays = other.rivalDays;
        }

        int startCoins() {
            return startCoins;
        }

        void setCoins(int coins) {
            startCoins = coins;
        }

        void setRival(int days) {
            rivalDays = days;
        }

        boolean rivalComes(int day) {
            return rivalDays > 0 && day % rivalDays == 0;
        }

        boolean works(int trick, int beliefs) {
            return (tricks.get(trick, NEEDS) & ~beliefs) == 0 && (tricks.get(trick, BARS) & beliefs) == 0;
        }

        int keys(int beliefs) {
            int bits = 0;
            for (int t = 0; t < tricks.size(); t++) {
                if (works(t, beliefs)) {
                    bits |= 1 << t;
                }
            }
            return bits;
        }

        /** Beliefs behind a trick that works. */
        int beliefsBehind(int trick, int beliefs) {
            return (beliefs | tricks.get(trick, GIVES)) & ~tricks.get(trick, TAKES);
        }

        /** Cord behind a trick that works. */
        int cordBehind(int trick, int cord, int help) {
            int laid = tricks.get(trick, CORD);
            return laid == 0 ? cord : Math.min(MOST_CORD, cord + laid + help);
        }

        boolean binds(int creature, int cord, int wary, int beliefs, int help) {
            int strength = creatures.get(creature, STRENGTH);
            if (rule.isEmpty()) {
                return cord != 0 && cord >= strength;
            }
            int price = creatures.get(creature, PRICE);
            return rule.worth(cord, strength, wary, Integer.bitCount(beliefs), price, help) > 0;
        }

        int priceOf(int bits) {
            int sum = 0;
            for (int c = 0; c < creatures.size(); c++) {
                if ((bits >> c & 1) != 0) {
                    sum += creatures.get(c, PRICE);
                }
            }
            return sum;
        }

        private int greatestStrength(int bits) {
            int greatest = 0;
            for (int c = 0; c < creatures.size(); c++) {
                if ((bits >> c & 1) != 0) {
                    greatest = Math.max(greatest, creatures.get(c, STRENGTH));
                }
            }
            return greatest;
        }

        int payersOf(int bits, int price) {
            int strength = greatestStrength(bits);
            int who = 0;
            for (int h = 0; h < hunters.size(); h++) {
                if (hunters.get(h, SKILL) >= strength && hunters.get(h, PURSE) >= price) {
                    who |= 1 << h;
                }
            }
            return who;
        }

        /** Only 0 and what is 1 above a purse can be the least price. */
        int priceForFew(int bits, int many) {
            if (Integer.bitCount(payersOf(bits, 0)) <= many) {
                return 0;
            }
            int least = NONE;
            for (int h = 0; h < hunters.size(); h++) {
                int price = hunters.get(h, PURSE) + 1;
                if (price <= MOST_PRICE && (least == NONE || price < least)
                        && Integer.bitCount(payersOf(bits, price)) <= many) {
                    least = price;
                }
            }
            return least;
        }

        /** Of those with skill enough the one with the fullest purse. */
        int richest(int bits) {
            int able = payersOf(bits, 0);
            int best = NONE;
            for (int h = 0; h < hunters.size(); h++) {
                if ((able >> h & 1) != 0 && (best == NONE || hunters.get(h, PURSE) > hunters.get(best, PURSE))) {
                    best = h;
                }
            }
            return best;
        }

        int manyResting(int hunter, int other, int creature) {
            int many = 0;
            for (int couple = 0; couple < 4; couple++) {
                if (rests(hunter, other, creature, couple >> 1, couple & 1)) {
                    many++;
                }
            }
            return many;
        }

        int firstResting(int hunter, int other, int creature) {
            for (int couple = 0; couple < 4; couple++) {
                if (rests(hunter, other, creature, couple >> 1, couple & 1)) {
                    return 10 * (couple >> 1) + (couple & 1);
                }
            }
            return NONE;
        }

        private boolean rests(int hunter, int other, int creature, int mine, int yours) {
            return gain(hunter, other, creature, mine, yours) >= gain(hunter, other, creature, 1 - mine, yours)
                    && gain(other, hunter, creature, yours, mine) >= gain(other, hunter, creature, 1 - yours, mine);
        }

        private int gain(int hunter, int other, int creature, int mine, int yours) {
            if (mine == 0) {
                return 2;
            }
            int strength = creatures.get(creature, STRENGTH);
            int price = creatures.get(creature, PRICE);
            int skill = hunters.get(hunter, SKILL);
            int rival = hunters.get(other, SKILL);
            if (skill < strength) {
                return -5;
            }
            if (yours == 0 || rival < strength) {
                return price;
            }
            return skill == rival ? 0 : skill > rival ? price - 10 : -5;
        }

        int fewestTales() {
            int all = partsOf(tales.all());
            int best = 0;
            int fewest = MOST_TALES + 1;
            for (int set = 0; set <= tales.all(); set++) {
                if (Integer.bitCount(set) < fewest && partsOf(set) == all) {
                    best = set;
                    fewest = Integer.bitCount(set);
                }
            }
            return best;
        }

        private int partsOf(int bits) {
            int parts = 0;
            for (int t = 0; t < tales.size(); t++) {
                if ((bits >> t & 1) != 0) {
                    parts |= tales.get(t, PARTS);
                }
            }
            return parts;
        }

        int sharedParts(int tale, int other) {
            return Integer.bitCount(tales.get(tale, PARTS) & tales.get(other, PARTS));
        }

        int lender(int tale) {
            int best = NONE;
            int most = 0;
            for (int t = 0; t < tale; t++) {
                int shared = sharedParts(tale, t);
                if (shared > most) {
                    most = shared;
                    best = t;
                }
            }
            return best;
        }

        int partsAlone(int tale) {
            return tales.get(tale, PARTS) & ~partsOf(tales.all() & ~(1 << tale));
        }

        int likeCouples() {
            int many = 0;
            for (int a = 0; a < tales.size(); a++) {
                for (int b = a + 1; b < tales.size(); b++) {
                    if (tales.get(a, PARTS) == tales.get(b, PARTS)) {
                        many++;
                    }
                }
            }
            return many;
        }
    }

    /** What acts change: coins, the day, the guard and, of each creature, four numbers. */
    private static final class State {
        static final int COINS_CELL = 0;
        static final int DAY_CELL = 1;
        static final int GUARD_CELL = 2;
        static final int BELIEFS_CELL = 3;
        static final int WARY_CELL = 4;
        static final int CORD_CELL = 5;
        static final int FATE_CELL = 6;
        static final int OF_CREATURE = 4;
        static final int CELLS = 3 + MOST_CREATURES * OF_CREATURE;

        private final Sky sky;
        // one row of numbers, so that an act is kept and undone by one copy
        private final int[] cells = new int[CELLS];

        State(Sky sky) {
            this.sky = sky;
            cells[COINS_CELL] = FIRST_COINS;
            cells[GUARD_CELL] = NONE;
        }

        void begin() {
            cells[COINS_CELL] = sky.startCoins();
            cells[DAY_CELL] = 0;
            cells[GUARD_CELL] = NONE;
            for (int c = 0; c < sky.creatures.size(); c++) {
                cells[OF_CREATURE * c + BELIEFS_CELL] = sky.creatures.get(c, FIRST_BELIEFS);
                cells[OF_CREATURE * c + WARY_CELL] = sky.creatures.get(c, FIRST_WARY);
                cells[OF_CREATURE * c + CORD_CELL] = 0;
                cells[OF_CREATURE * c + FATE_CELL] = FREE;
            }
        }

        void copyFrom(State other) {
            System.arraycopy(other.cells, 0, cells, 0, CELLS);
        }

        int coins() {
            return cells[COINS_CELL];
        }

        void setCoins(int coins) {
            cells[COINS_CELL] = coins;
        }

        int dayNow() {
            return cells[DAY_CELL];
        }

        int guarded() {
            return cells[GUARD_CELL];
        }

        void setGuarded(int creature) {
            cells[GUARD_CELL] = creature;
        }

        int beliefs(int creature) {
            return cells[OF_CREATURE * creature + BELIEFS_CELL];
        }

        void setBeliefs(int creature, int beliefs) {
            cells[OF_CREATURE * creature + BELIEFS_CELL] = beliefs;
        }

        int wary(int creature) {
            return cells[OF_CREATURE * creature + WARY_CELL];
        }

        int cordOn(int creature) {
            return cells[OF_CREATURE * creature + CORD_CELL];
        }

        int fate(int creature) {
            return cells[OF_CREATURE * creature + FATE_CELL];
        }

        private void setCord(int creature, int cord) {
            cells[OF_CREATURE * creature + CORD_CELL] = cord;
        }

        private void setFate(int creature, int fate) {
            cells[OF_CREATURE * creature + FATE_CELL] = fate;
        }

        int bitsOf(int fate) {
            int bits = 0;
            for (int c = 0; c < sky.creatures.size(); c++) {
                if (fate(c) == fate) {
                    bits |= 1 << c;
                }
            }
            return bits;
        }

        int helpThere() {
            int sum = 0;
            for (int c = 0; c < sky.creatures.size(); c++) {
                if (fate(c) == CAUGHT) {
                    sum += sky.creatures.get(c, HELP);
                }
            }
            return sum;
        }

        boolean mayTry(int creature, int trick) {
            return fate(creature) == FREE && coins() >= sky.tricks.get(trick, COST);
        }

        /** 2: it is caught, 1: it works, 0: it doesn't. */
        int tryTrick(int creature, int trick) {
            setCoins(coins() - sky.tricks.get(trick, COST));
            if (!sky.works(trick, beliefs(creature))) {
                cells[OF_CREATURE * creature + WARY_CELL] = Math.min(MOST_WARY, wary(creature) + 1);
                setCord(creature, 0);
                return 0;
            }
            int help = helpThere();
            setBeliefs(creature, sky.beliefsBehind(trick, beliefs(creature)));
            setCord(creature, sky.cordBehind(trick, cordOn(creature), help));
            if (!sky.binds(creature, cordOn(creature), wary(creature), beliefs(creature), help)) {
                return 1;
            }
            setFate(creature, CAUGHT);
            return 2;
        }

        void passDay() {
            for (int c = 0; c < sky.creatures.size(); c++) {
                if (fate(c) == FREE && cordOn(c) > 0) {
                    setCord(c, cordOn(c) - 1);
                }
            }
            stealIfRivalComes();
            cells[DAY_CELL]++;
        }

        private void stealIfRivalComes() {
            if (!sky.rivalComes(dayNow() + 1)) {
                return;
            }
            int prey = NONE;
            for (int c = 0; c < sky.creatures.size(); c++) {
                if (fate(c) == CAUGHT && c != guarded()
                        && (prey == NONE || sky.creatures.get(c, PRICE) > sky.creatures.get(prey, PRICE))) {
                    prey = c;
                }
            }
            if (prey != NONE) {
                setFate(prey, STOLEN);
            }
        }
    }

    /** All that an image keeps: the state, the acts that can be undone, the marks. */
    private static final class World {
        private final State state;
        // a ring of the states ahead of each act
        private final int[] past = new int[MOST_ACTS * State.CELLS];
        private int oldest = 0;
        private int acts = 0;
        private final int[] marks = new int[MOST_MARKS];
        private int marked = 0;

        World(Sky sky) {
            state = new State(sky);
        }

        void begin() {
            state.begin();
            oldest = 0;
            acts = 0;
            marked = 0;
        }

        void copyFrom(World other) {
            state.copyFrom(other.state);
            System.arraycopy(other.past, 0, past, 0, past.length);
            oldest = other.oldest;
            acts = other.acts;
            System.arraycopy(other.marks, 0, marks, 0, MOST_MARKS);
            marked = other.marked;
        }

        int acts() {
            return acts;
        }

        void remember() {
            int slot = (oldest + acts) % MOST_ACTS;
            System.arraycopy(state.cells, 0, past, slot * State.CELLS, State.CELLS);
            if (acts < MOST_ACTS) {
                acts++;
            } else {
                oldest = (oldest + 1) % MOST_ACTS;
            }
        }

        boolean takeBack() {
            if (acts == 0) {
                return false;
            }
            acts--;
            int slot = (oldest + acts) % MOST_ACTS;
            System.arraycopy(past, slot * State.CELLS, state.cells, 0, State.CELLS);
            return true;
        }

        int marks() {
            return marked;
        }

        void addMark(int creature, int step, int belief, boolean has) {
            if (marked < MOST_MARKS) {
                marks[marked] = creature << 8 | step << 5 | belief << 1 | (has ? 1 : 0);
                marked++;
            }
        }

        void dropMarks() {
            marked = 0;
        }

        /** Beliefs that marks say a creature had, or hadn't, behind a step. */
        int markedBeliefs(int creature, int step, boolean has) {
            int bits = 0;
            for (int i = 0; i < marked; i++) {
                boolean asked = (marks[i] & 1) == (has ? 1 : 0);
                if (asked && marks[i] >> 8 == creature && (marks[i] >> 5 & 7) == step) {
                    bits |= 1 << (marks[i] >> 1 & 7);
                }
            }
            return bits;
        }
    }

    /** Rows of tries that all work, at one creature: places are its beliefs with the cord on it. */
    private static final class Search {
        static final int CORDS = MOST_CORD + 1;
        static final int PLACES = CORDS * BELIEF_SETS;

        private final Sky sky;
        private final int[] queue = new int[PLACES];
        // how a place in the queue was come to: 8 times the queue's index ahead, and the trick
        private final int[] links = new int[PLACES];
        private final int[] costs = new int[PLACES];
        // by cord: sets of beliefs as bits
        private final long[] seen = new long[CORDS];
        private final long[] open = new long[CORDS];
        // by number of beliefs: cords as bits, since the rule knows no more of a place
        private final long[] asked = new long[BELIEFS + 1];
        private final long[] binding = new long[BELIEFS + 1];
        private int creature = 0;
        private int help = 0;
        private int wary = 0;
        private int firstBeliefs = 0;
        private int firstCord = 0;
        private int tail = 0;
        private int goal = NONE;
        private long reached = 0;
        private int worked = 0;

        Search(Sky sky) {
            this.sky = sky;
        }

        void startAt(State state, int who, int helpThen) {
            creature = who;
            help = helpThen;
            wary = state.wary(who);
            firstBeliefs = state.beliefs(who);
            firstCord = state.cordOn(who);
            Arrays.fill(asked, 0L);
            Arrays.fill(binding, 0L);
        }

        /** Every place that can be come to. */
        void spread() {
            begin();
            for (int head = 0; head < tail && head < PLACES; head++) {
                goOnFrom(head);
            }
        }

        /** How many tries, 0 if there is no plan. */
        int fewestTries() {
            begin();
            // in this order the first row that is found is the first by tricks, too
            for (int head = 0; head < tail && head < PLACES && goal == NONE; head++) {
                goOnFrom(head);
            }
            int tries = 0;
            for (int link = goal; link != NONE && tries < PLACES; link = links[link >> 3]) {
                tries++;
            }
            return tries;
        }

        int trickOf(int i, int tries) {
            int link = goal;
            for (int k = tries - 1; k > i && link != NONE; k--) {
                link = links[link >> 3];
            }
            return link & 7;
        }

        /** All sets of beliefs that were come to, a bit for each. */
        long reached() {
            return reached;
        }

        int worked() {
            return worked;
        }

        private void begin() {
            Arrays.fill(seen, 0L);
            tail = 0;
            goal = NONE;
            worked = 0;
            reached = 1L << firstBeliefs;
            visit(firstBeliefs, firstCord, NONE);
        }

        private void visit(int beliefs, int cord, int link) {
            if ((seen[cord] >> beliefs & 1) == 0 && tail < PLACES) {
                seen[cord] |= 1L << beliefs;
                queue[tail] = cord * BELIEF_SETS + beliefs;
                links[tail] = link;
                tail++;
            }
        }

        private void goOnFrom(int head) {
            int beliefs = queue[head] % BELIEF_SETS;
            int cord = queue[head] / BELIEF_SETS;
            for (int t = 0; t < sky.tricks.size(); t++) {
                if (!sky.works(t, beliefs)) {
                    continue;
                }
                worked |= 1 << t;
                int beliefsThen = sky.beliefsBehind(t, beliefs);
                int cordThen = sky.cordBehind(t, cord, help);
                reached |= 1L << beliefsThen;
                if (!isBound(beliefsThen, cordThen)) {
                    visit(beliefsThen, cordThen, head * 8 + t);
                } else if (goal == NONE) {
                    goal = head * 8 + t;
                }
            }
        }

        private boolean isBound(int beliefs, int cord) {
            int many = Integer.bitCount(beliefs);
            long bit = 1L << cord;
            if ((asked[many] & bit) == 0) {
                asked[many] |= bit;
                if (sky.binds(creature, cord, wary, beliefs, help)) {
                    binding[many] |= bit;
                }
            }
            return (binding[many] & bit) != 0;
        }

        /** The least cost of a plan, or NONE. */
        int leastCost() {
            Arrays.fill(seen, 0L);
            Arrays.fill(open, 0L);
            int best = NONE;
            improve(firstBeliefs, firstCord, 0);
            // cord never gets less in a plan: what is below is settled
            for (int cord = firstCord; cord < CORDS; cord++) {
                for (int i = 0; i < BELIEF_SETS && open[cord] != 0; i++) {
                    int beliefs = cheapestOpen(cord);
                    open[cord] &= ~(1L << beliefs);
                    best = payFrom(beliefs, cord, best);
                }
            }
            return best;
        }

        private int cheapestOpen(int cord) {
            int best = NONE;
            for (int set = 0; set < BELIEF_SETS; set++) {
                boolean isOpen = (open[cord] >> set & 1) != 0;
                if (isOpen && (best == NONE || costs[cord * BELIEF_SETS + set] < costs[cord * BELIEF_SETS + best])) {
                    best = set;
                }
            }
            return Math.max(0, best);
        }

        private int payFrom(int beliefs, int cord, int bestYet) {
            int best = bestYet;
            int paid = costs[cord * BELIEF_SETS + beliefs];
            for (int t = 0; t < sky.tricks.size(); t++) {
                if (!sky.works(t, beliefs)) {
                    continue;
                }
                int cost = paid + sky.tricks.get(t, COST);
                int beliefsThen = sky.beliefsBehind(t, beliefs);
                int cordThen = sky.cordBehind(t, cord, help);
                if (!isBound(beliefsThen, cordThen)) {
                    improve(beliefsThen, cordThen, cost);
                } else if (best == NONE || cost < best) {
                    best = cost;
                }
            }
            return best;
        }

        private void improve(int beliefs, int cord, int cost) {
            int place = cord * BELIEF_SETS + beliefs;
            long bit = 1L << beliefs;
            if ((seen[cord] & bit) == 0 || cost < costs[place]) {
                seen[cord] |= bit;
                open[cord] |= bit;
                costs[place] = cost;
            }
        }
    }

    /** In which order all free ones are caught. */
    private static final class Orders {
        static final int SETS = 1 << MOST_CREATURES;
        static final int HELPS = 1 + 9 * MOST_CREATURES;
        static final int UNKNOWN = -1;

        private final Sky sky;
        private final State state;
        private final Search search;
        // by the set of those who are caught by then: tries for the rest, and who is first of it
        private final int[] tries = new int[SETS];
        private final int[] firsts = new int[SETS];
        private final int[] plans = new int[MOST_CREATURES * HELPS];

        Orders(Sky sky, State state, Search search) {
            this.sky = sky;
            this.state = state;
            this.search = search;
        }

        /** The fewest tries for all of a set of free ones, or NONE. */
        int solve(int free) {
            Arrays.fill(plans, UNKNOWN);
            int helpNow = state.helpThere();
            for (int caught = free; caught >= 0; caught--) {
                if ((caught & ~free) == 0) {
                    chooseFirst(free, caught, helpNow + helpOf(caught));
                }
            }
            return tries[0];
        }

        /** The i-th of the order that solve() found. */
        int creatureOf(int i) {
            int caught = 0;
            for (int k = 0; k < i && k < MOST_CREATURES; k++) {
                caught |= 1 << firsts[caught];
            }
            return firsts[caught];
        }

        private int helpOf(int bits) {
            int sum = 0;
            for (int c = 0; c < sky.creatures.size(); c++) {
                if ((bits >> c & 1) != 0) {
                    sum += sky.creatures.get(c, HELP);
                }
            }
            return sum;
        }

        private void chooseFirst(int free, int caught, int help) {
            int best = caught == free ? 0 : NONE;
            firsts[caught] = 0;
            for (int c = 0; c < sky.creatures.size(); c++) {
                if (((free & ~caught) >> c & 1) == 0 || tries[caught | 1 << c] == NONE) {
                    continue;
                }
                int slot = c * HELPS + help;
                if (plans[slot] == UNKNOWN) {
                    search.startAt(state, c, help);
                    plans[slot] = search.fewestTries();
                }
                int sum = plans[slot] + tries[caught | 1 << c];
                if (plans[slot] > 0 && (best == NONE || sum < best)) {
                    best = sum;
                    firsts[caught] = c;
                }
            }
            tries[caught] = best;
        }
    }

    /** How it was done: rows of tricks that are as the marks say. */
    private static final class Rows {
        private final Sky sky;
        private final World world;
        // by step: sets of beliefs that marks allow there, as bits
        private final long[] allowed = new long[MOST_STEPS + 1];
        // by step and set of beliefs: in how many ways the rest can be done
        private final int[] ways = new int[(MOST_STEPS + 1) * BELIEF_SETS];
        private int steps = 0;
        private int first = 0;

        Rows(Sky sky, World world) {
            this.sky = sky;
            this.world = world;
        }

        void solve(int creature, int tries) {
            steps = Math.max(0, Math.min(MOST_STEPS, tries));
            first = world.state.beliefs(creature);
            allowed[0] = 1L << first;
            for (int step = 1; step <= steps; step++) {
                int had = world.markedBeliefs(creature, step, true);
                int hadNot = world.markedBeliefs(creature, step, false);
                allowed[step] = behind(allowed[step - 1]) & setsWith(had, hadNot);
            }
            for (int step = steps; step >= 0; step--) {
                for (int set = 0; set < BELIEF_SETS; set++) {
                    ways[step * BELIEF_SETS + set] = waysFrom(step, set);
                }
            }
        }

        int many() {
            return ways[first];
        }

        /** The first row, a digit for each trick, or NONE. */
        int firstRow() {
            if (many() == 0) {
                return NONE;
            }
            int row = 0;
            int beliefs = first;
            for (int step = 1; step <= steps; step++) {
                int trick = firstTrick(step, beliefs);
                row = row * 10 + trick;
                beliefs = behindTry(trick, beliefs);
            }
            return row;
        }

        /** The step behind which beliefs are most unlike, or NONE. */
        int tellingStep() {
            int best = NONE;
            int most = 0;
            for (int step = 1; step <= steps; step++) {
                if (unlikeBehind(step) > most) {
                    most = unlikeBehind(step);
                    best = step;
                }
            }
            return best;
        }

        int unlikeBehind(int step) {
            int many = 0;
            for (int set = 0; set < BELIEF_SETS; set++) {
                if (ways[step * BELIEF_SETS + set] > 0) {
                    many++;
                }
            }
            return many;
        }

        private int behindTry(int trick, int beliefs) {
            return sky.works(trick, beliefs) ? sky.beliefsBehind(trick, beliefs) : beliefs;
        }

        private long behind(long sets) {
            long then = 0;
            for (int set = 0; set < BELIEF_SETS; set++) {
                for (int t = 0; (sets >> set & 1) != 0 && t < sky.tricks.size(); t++) {
                    then |= 1L << behindTry(t, set);
                }
            }
            return then;
        }

        private int waysFrom(int step, int set) {
            if ((allowed[step] >> set & 1) == 0) {
                return 0;
            }
            if (step == steps) {
                return 1;
            }
            int sum = 0;
            for (int t = 0; t < sky.tricks.size(); t++) {
                sum += ways[(step + 1) * BELIEF_SETS + behindTry(t, set)];
            }
            return sum;
        }

        private int firstTrick(int step, int beliefs) {
            for (int t = 0; t < sky.tricks.size(); t++) {
                if (ways[step * BELIEF_SETS + behindTry(t, beliefs)] > 0) {
                    return t;
                }
            }
            return 0;
        }
    }

    /** What would be: days that only go by, guards, spiders. */
    private static final class Future {
        static final int SPIDER_DAYS = 6;

        private final Sky sky;
        private final State now;
        private final State then;
        private int seed = 0;

        Future(Sky sky, State now) {
            this.sky = sky;
            this.now = now;
            then = new State(sky);
        }

        int stolenIn(int days) {
            then.copyFrom(now);
            passDays(days);
            return then.bitsOf(STOLEN);
        }

        int whenStolen(int creature) {
            then.copyFrom(now);
            for (int days = 0; days <= MOST_AHEAD; days++) {
                if (then.fate(creature) == STOLEN) {
                    return days;
                }
                then.passDay();
            }
            return NONE;
        }

        int bestGuard(int days) {
            int best = NONE;
            int most = keptWith(NONE, days);
            for (int c = 0; c < sky.creatures.size(); c++) {
                if (now.fate(c) == CAUGHT) {
                    int keeps = keptWith(c, days);
                    if (keeps > most) {
                        most = keeps;
                        best = c;
                    }
                }
            }
            return best;
        }

        /** Price of those who are still caught, with one guard or none. */
        private int keptWith(int guarded, int days) {
            then.copyFrom(now);
            then.setGuarded(guarded);
            passDays(days);
            return sky.priceOf(then.bitsOf(CAUGHT));
        }

        private void passDays(int days) {
            for (int i = 0; i < days; i++) {
                then.passDay();
            }
        }

        /** What 0: how many are caught, 1: stolen, by all spiders; 2: the most coins left to one. */
        int letSpidersGo(int firstSeed, int many, int what) {
            seed = firstSeed;
            int sum = 0;
            int coins = 0;
            for (int i = 0; i < many; i++) {
                letSpiderGo();
                sum += Integer.bitCount(then.bitsOf(what == 0 ? CAUGHT : STOLEN));
                coins = Math.max(coins, then.coins());
            }
            return what == 2 ? coins : sum;
        }

        private void letSpiderGo() {
            then.copyFrom(now);
            for (int day = 0; day < SPIDER_DAYS; day++) {
                if (sky.creatures.size() > 0 && sky.tricks.size() > 0) {
                    int creature = draw(sky.creatures.size());
                    int trick = draw(sky.tricks.size());
                    if (then.mayTry(creature, trick)) {
                        then.tryTrick(creature, trick);
                    }
                }
                then.passDay();
            }
        }

        private int draw(int n) {
            seed = seed * 1103515245 + 12345;
            return n > 0 ? (seed >>> 16 & 32767) % n : 0;
        }
    }
}
