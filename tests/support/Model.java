import java.util.ArrayDeque;
import java.util.ArrayList;
import java.util.Arrays;
import java.util.Deque;
import java.util.HashMap;
import java.util.HashSet;
import java.util.List;
import java.util.Map;
import java.util.NoSuchElementException;
import java.util.Set;
import java.util.TreeMap;
import java.util.function.ToIntFunction;

/**
 * The document once more, told in the slowest and plainest way, to be compared with SpiderTales.
 * It shares no code with it, and takes another way wherever there is one.
 */
final class Model {
    static final class Creature implements Cloneable {
        int strength, beliefs, wary, price, help, cord, fate;

        Creature copy() {
            Creature c = new Creature();
            c.strength = strength;
            c.beliefs = beliefs;
            c.wary = wary;
            c.price = price;
            c.help = help;
            c.cord = cord;
            c.fate = fate;
            return c;
        }
    }

    static final class Scene {
        final List<Creature> creatures = new ArrayList<>();
        int coins = 50, day = 0, guarded = -1;

        Scene copy() {
            Scene s = new Scene();
            for (Creature c : creatures) {
                s.creatures.add(c.copy());
            }
            s.coins = coins;
            s.day = day;
            s.guarded = guarded;
            return s;
        }

        int help() {
            return creatures.stream().filter(c -> c.fate == 1).mapToInt(c -> c.help).sum();
        }

        int bits(int fate) {
            int b = 0;
            for (int i = 0; i < creatures.size(); i++) {
                b += creatures.get(i).fate == fate ? 1 << i : 0;
            }
            return b;
        }
    }

    /** What a rule may ask for. */
    static final class View {
        int cord, strength, wary, beliefs, price, help;
    }

    @SuppressWarnings("serial")
    static final class Fault extends RuntimeException {
        final int kind, place;

        Fault(int kind, int place) {
            this.kind = kind;
            this.place = place;
        }
    }

    static final class Token {
        final char type; // 'w' a word, 'n' a number, 's' a sign, 'x' none, 'e' the end
        final String text;
        final int place;

        Token(char type, String text, int place) {
            this.type = type;
            this.text = text;
            this.place = place;
        }

        boolean is(String s) {
            return (type == 'w' || type == 's') && text.equals(s);
        }
    }

    static final class Told {
        final Scene scene = new Scene();
        final List<int[]> tricks = new ArrayList<>();
        final List<int[]> hunters = new ArrayList<>();
        final List<Integer> tales = new ArrayList<>();
        int rival = 0;
        ToIntFunction<View> bound = null;
    }

    private String tape = "";
    private int faultPlace = -1;
    private Told told = new Told();
    private Scene now = told.scene;
    private Deque<Scene> acts = new ArrayDeque<>();
    private List<int[]> marks = new ArrayList<>();
    private Scene imageScene = null;
    private Deque<Scene> imageActs = null;
    private List<int[]> imageMarks = null;
    private final int[] status = new int[3];

    // ---- the text

    private List<Token> tokens;
    private int at;

    private static List<Token> split(String text) {
        List<Token> out = new ArrayList<>();
        int i = 0;
        while (i < text.length()) {
            char c = text.charAt(i);
            int j = i + 1;
            if (c == ' ' || c == '\n') {
                i++;
                continue;
            }
            char type = 'x';
            if (c >= 'a' && c <= 'z') {
                type = 'w';
                while (j < text.length() && text.charAt(j) >= 'a' && text.charAt(j) <= 'z') {
                    j++;
                }
            } else if (c >= '0' && c <= '9') {
                type = 'n';
                while (j < text.length() && text.charAt(j) >= '0' && text.charAt(j) <= '9') {
                    j++;
                }
            } else if (";()+-*/<=".indexOf(c) >= 0) {
                type = 's';
            }
            out.add(new Token(type, text.substring(i, j), i));
            i = j;
        }
        out.add(new Token('e', "", text.length()));
        return out;
    }

    private Token peek() {
        return tokens.get(at);
    }

    private Fault wrong(int kind) {
        return new Fault(kind, peek().place);
    }

    private int number(int least, int most) {
        Token t = peek();
        if (t.type != 'n') {
            throw wrong(1);
        }
        if (t.text.length() > 4 || Integer.parseInt(t.text) < least || Integer.parseInt(t.text) > most) {
            throw wrong(2);
        }
        at++;
        return Integer.parseInt(t.text);
    }

    private int[] numbers(int have, int most, int... limits) {
        if (have == most) {
            throw wrong(2);
        }
        at++;
        int[] out = new int[limits.length];
        for (int i = 0; i < limits.length; i++) {
            out[i] = number(0, limits[i]);
        }
        return out;
    }

    private Told parse(String text) {
        tokens = split(text);
        at = 0;
        Told t = new Told();
        Set<String> once = new HashSet<>();
        while (peek().type != 'e') {
            Token first = peek();
            if (first.type != 'w') {
                throw wrong(1);
            }
            if (Arrays.asList("coins", "rival", "bound").contains(first.text) && !once.add(first.text)) {
                throw wrong(5);
            }
            switch (first.text) {
                case "creature": {
                    int[] n = numbers(t.scene.creatures.size(), 6, 60, 63, 9, 99, 9);
                    Creature c = new Creature();
                    c.strength = n[0];
                    c.beliefs = n[1];
                    c.wary = n[2];
                    c.price = n[3];
                    c.help = n[4];
                    t.scene.creatures.add(c);
                    break;
                }
                case "trick":
                    t.tricks.add(numbers(t.tricks.size(), 8, 63, 63, 63, 63, 20, 20));
                    break;
                case "hunter":
                    t.hunters.add(numbers(t.hunters.size(), 6, 60, 999));
                    break;
                case "tale":
                    t.tales.add(numbers(t.tales.size(), 8, 1023)[0]);
                    break;
                case "coins":
                    at++;
                    t.scene.coins = number(0, 999);
                    break;
                case "rival":
                    at++;
                    t.rival = number(1, 30);
                    break;
                case "bound":
                    at++;
                    t.bound = expr(0);
                    break;
                default:
                    throw wrong(1);
            }
            sign(";");
        }
        return t;
    }

    private void sign(String s) {
        if (!peek().is(s)) {
            throw wrong(1);
        }
        at++;
    }

    private ToIntFunction<View> expr(int within) {
        if (within == 6) {
            throw wrong(peek().type == 'n' || peek().type == 'w' || peek().is("(") ? 2 : 1);
        }
        ToIntFunction<View> left = and(within);
        while (peek().is("or")) {
            at++;
            ToIntFunction<View> a = left;
            ToIntFunction<View> b = and(within);
            left = v -> a.applyAsInt(v) != 0 | b.applyAsInt(v) != 0 ? 1 : 0;
        }
        return left;
    }

    private ToIntFunction<View> and(int within) {
        ToIntFunction<View> left = not(within, 0);
        while (peek().is("and")) {
            at++;
            ToIntFunction<View> a = left;
            ToIntFunction<View> b = not(within, 0);
            left = v -> a.applyAsInt(v) != 0 & b.applyAsInt(v) != 0 ? 1 : 0;
        }
        return left;
    }

    private ToIntFunction<View> not(int within, int nots) {
        if (peek().is("not")) {
            if (nots == 6) {
                throw wrong(2);
            }
            at++;
            ToIntFunction<View> a = not(within, nots + 1);
            return v -> a.applyAsInt(v) == 0 ? 1 : 0;
        }
        ToIntFunction<View> a = sum(within);
        if (peek().is("<")) {
            at++;
            ToIntFunction<View> b = sum(within);
            return v -> a.applyAsInt(v) < b.applyAsInt(v) ? 1 : 0;
        }
        if (peek().is("=")) {
            at++;
            ToIntFunction<View> b = sum(within);
            return v -> a.applyAsInt(v) == b.applyAsInt(v) ? 1 : 0;
        }
        return a;
    }

    private ToIntFunction<View> sum(int within) {
        ToIntFunction<View> left = product(within);
        while (peek().is("+") || peek().is("-")) {
            boolean plus = peek().is("+");
            at++;
            ToIntFunction<View> a = left;
            ToIntFunction<View> b = product(within);
            left = v -> plus ? a.applyAsInt(v) + b.applyAsInt(v) : a.applyAsInt(v) - b.applyAsInt(v);
        }
        return left;
    }

    private ToIntFunction<View> product(int within) {
        ToIntFunction<View> left = part(within);
        while (peek().is("*") || peek().is("/")) {
            boolean times = peek().is("*");
            at++;
            ToIntFunction<View> a = left;
            ToIntFunction<View> b = part(within);
            left = v -> {
                int x = a.applyAsInt(v);
                int y = b.applyAsInt(v);
                return times ? x * y : y == 0 ? 0 : x / y;
            };
        }
        return left;
    }

    private ToIntFunction<View> part(int within) {
        Token t = peek();
        if (t.type == 'n') {
            int n = number(0, 9999);
            return v -> n;
        }
        if (t.is("(")) {
            at++;
            ToIntFunction<View> inner = expr(within + 1);
            sign(")");
            return inner;
        }
        if (t.type != 'w') {
            throw wrong(1);
        }
        switch (t.text) {
            case "cord":
                at++;
                return v -> v.cord;
            case "strength":
                at++;
                return v -> v.strength;
            case "wary":
                at++;
                return v -> v.wary;
            case "beliefs":
                at++;
                return v -> v.beliefs;
            case "price":
                at++;
                return v -> v.price;
            case "help":
                at++;
                return v -> v.help;
            default:
                throw wrong(3);
        }
    }

    int feed(int a, int b, int c, int d, int e) {
        if (tape.length() + 20 > 700) {
            return -1;
        }
        StringBuilder s = new StringBuilder(tape);
        for (int n : new int[] {a, b, c, d, e}) {
            s.append((char) (n >>> 24)).append((char) (n >>> 16 & 255));
            s.append((char) (n >>> 8 & 255)).append((char) (n & 255));
        }
        tape = s.toString();
        return tape.length();
    }

    int sky(int n) {
        if (n < 0 || n > tape.length()) {
            throw new IllegalArgumentException();
        }
        String text = tape.substring(0, n);
        tape = "";
        try {
            told = parse(text);
        } catch (Fault f) {
            faultPlace = f.place;
            status[0]++;
            return f.kind;
        }
        faultPlace = -1;
        now = told.scene;
        acts.clear();
        marks.clear();
        imageScene = null;
        return 0;
    }

    int fault() {
        return faultPlace;
    }

    // ---- what there is

    int count(int what) {
        switch (what) {
            case 0: return now.creatures.size();
            case 1: return told.tricks.size();
            case 2: return told.hunters.size();
            case 3: return told.tales.size();
            case 4: return now.coins;
            case 5: return now.day;
            case 6:
            case 7:
            case 8: return now.bits(what - 6);
            case 9: return now.guarded;
            case 10: return now.help();
            case 11: return acts.size();
            case 12: return marks.size();
            case 13: return tape.length();
            case 14:
            case 15:
            case 16: return status[what - 14];
            default: throw new NoSuchElementException();
        }
    }

    private Creature who(int c) {
        need(c >= 0 && c < now.creatures.size());
        return now.creatures.get(c);
    }

    private int[] which(int t) {
        need(t >= 0 && t < told.tricks.size());
        return told.tricks.get(t);
    }

    private static void need(boolean there) {
        if (!there) {
            throw new NoSuchElementException();
        }
    }

    private static void allow(boolean fine) {
        if (!fine) {
            throw new IllegalArgumentException();
        }
    }

    private static boolean works(int[] trick, int beliefs) {
        for (int b = 0; b < 6; b++) {
            boolean has = (beliefs >> b) % 2 == 1;
            if ((trick[0] >> b) % 2 == 1 && !has || (trick[1] >> b) % 2 == 1 && has) {
                return false;
            }
        }
        return true;
    }

    int creature(int c, int what) {
        Creature x = who(c);
        int keys = 0;
        for (int t = 0; t < told.tricks.size(); t++) {
            keys += x.fate == 0 && works(told.tricks.get(t), x.beliefs) ? 1 << t : 0;
        }
        int[] all = {x.strength, x.beliefs, x.wary, x.price, x.help, x.cord, x.fate, keys};
        need(what >= 0 && what < all.length);
        return all[what];
    }

    int trick(int t, int what) {
        int[] x = which(t);
        need(what >= 0 && what < 6);
        return x[what];
    }

    // ---- acts

    private boolean bound(Creature c, int help) {
        if (told.bound == null) {
            return c.cord >= c.strength && c.cord != 0;
        }
        View v = new View();
        v.cord = c.cord;
        v.strength = c.strength;
        v.wary = c.wary;
        v.beliefs = Integer.bitCount(c.beliefs);
        v.price = c.price;
        v.help = help;
        return told.bound.applyAsInt(v) > 0;
    }

    /** A try at a creature with so much help: 2, 1, 0. */
    private int tried(Creature c, int[] trick, int help) {
        if (!works(trick, c.beliefs)) {
            c.wary = Math.min(9, c.wary + 1);
            c.cord = 0;
            return 0;
        }
        c.beliefs |= trick[2];
        c.beliefs &= 63 - trick[3];
        if (trick[4] > 0) {
            c.cord = Math.min(60, c.cord + trick[4] + help);
        }
        if (bound(c, help)) {
            c.fate = 1;
            return 2;
        }
        return 1;
    }

    private static boolean mayTry(Scene s, Creature c, int[] trick) {
        return c.fate == 0 && s.coins >= trick[5];
    }

    private void keep() {
        acts.addLast(now.copy());
        while (acts.size() > 40) {
            acts.removeFirst();
        }
    }

    private int refused() {
        status[1]++;
        return -1;
    }

    int attempt(int c, int t) {
        who(c);
        which(t);
        if (!mayTry(now, who(c), which(t))) {
            return refused();
        }
        keep();
        now.coins -= which(t)[5];
        return tried(who(c), which(t), now.help());
    }

    private void pass(Scene s) {
        for (Creature c : s.creatures) {
            if (c.fate == 0) {
                c.cord = Math.max(0, c.cord - 1);
            }
        }
        s.day++;
        if (told.rival != 0 && s.day % told.rival == 0) {
            Creature prey = null;
            for (int i = s.creatures.size() - 1; i >= 0; i--) {
                Creature c = s.creatures.get(i);
                if (c.fate == 1 && i != s.guarded && (prey == null || c.price >= prey.price)) {
                    prey = c;
                }
            }
            if (prey != null) {
                prey.fate = 2;
            }
        }
    }

    int days(int many) {
        if (many < 1 || many > 20 || now.day + many > 999) {
            return refused();
        }
        keep();
        for (int i = 0; i < many; i++) {
            pass(now);
        }
        return now.day;
    }

    boolean guard(int c) {
        if (who(c).fate != 1 || now.guarded == c) {
            refused();
            return false;
        }
        keep();
        now.guarded = c;
        return true;
    }

    int give(int coins) {
        if (coins < 1 || coins > 99) {
            return refused();
        }
        keep();
        now.coins = Math.min(999, now.coins + coins);
        return now.coins;
    }

    int tell(int c, int belief, boolean has) {
        who(c);
        need(belief >= 0 && belief <= 5);
        boolean had = (who(c).beliefs >> belief) % 2 == 1;
        if (who(c).fate != 0 || had == has) {
            return refused();
        }
        keep();
        who(c).beliefs ^= 1 << belief;
        return who(c).beliefs;
    }

    int undo() {
        if (acts.isEmpty()) {
            return -1;
        }
        now = acts.removeLast();
        return acts.size();
    }

    // ---- plans

    /** The first of the shortest rows, or null; a row is a text of digits. */
    private String shortest(Creature from, int help) {
        Map<Integer, String> level = new TreeMap<>();
        level.put(from.cord * 64 + from.beliefs, "");
        Set<Integer> old = new HashSet<>(level.keySet());
        while (!level.isEmpty()) {
            String best = null;
            Map<Integer, String> then = new TreeMap<>();
            for (Map.Entry<Integer, String> e : level.entrySet()) {
                for (int t = 0; t < told.tricks.size(); t++) {
                    Creature c = from.copy();
                    c.cord = e.getKey() / 64;
                    c.beliefs = e.getKey() % 64;
                    int got = tried(c, told.tricks.get(t), help);
                    String row = e.getValue() + t;
                    if (got == 2 && (best == null || row.compareTo(best) < 0)) {
                        best = row;
                    }
                    if (got == 1 && !old.contains(c.cord * 64 + c.beliefs)) {
                        then.merge(c.cord * 64 + c.beliefs, row, (a, b) -> a.compareTo(b) < 0 ? a : b);
                    }
                }
            }
            if (best != null) {
                return best;
            }
            old.addAll(then.keySet());
            level = then;
        }
        return null;
    }

    int plan(int c, int i) {
        who(c);
        need(i >= -1);
        String row = who(c).fate == 0 ? shortest(who(c), now.help()) : null;
        if (row == null) {
            return -2;
        }
        need(i < row.length());
        return i == -1 ? row.length() : row.charAt(i) - '0';
    }

    int cheapest(int c) {
        if (who(c).fate != 0) {
            return -1;
        }
        Map<Integer, Integer> cost = new HashMap<>();
        cost.put(who(c).cord * 64 + who(c).beliefs, 0);
        int best = -1;
        boolean better = true;
        while (better) {
            better = false;
            for (int place : new ArrayList<>(cost.keySet())) {
                for (int[] t : told.tricks) {
                    Creature x = who(c).copy();
                    x.cord = place / 64;
                    x.beliefs = place % 64;
                    int got = tried(x, t, now.help());
                    int sum = cost.get(place) + t[5];
                    if (got == 2 && (best == -1 || sum < best)) {
                        best = sum;
                        better = true;
                    }
                    int then = x.cord * 64 + x.beliefs;
                    if (got == 1 && (!cost.containsKey(then) || sum < cost.get(then))) {
                        cost.put(then, sum);
                        better = true;
                    }
                }
            }
        }
        return best;
    }

    /** All sets of beliefs to which rows that work bring it; the tricks of these rows go into used. */
    private Set<Integer> reach(Creature from, Set<Integer> used) {
        Set<Integer> sets = new HashSet<>();
        Set<Integer> places = new HashSet<>();
        Deque<Creature> todo = new ArrayDeque<>();
        todo.push(from.copy());
        places.add(from.cord * 64 + from.beliefs);
        sets.add(from.beliefs);
        while (!todo.isEmpty()) {
            Creature c = todo.pop();
            for (int t = 0; t < told.tricks.size(); t++) {
                Creature x = c.copy();
                int got = tried(x, told.tricks.get(t), now.help());
                if (got > 0) {
                    used.add(t);
                    sets.add(x.beliefs);
                }
                if (got == 1 && places.add(x.cord * 64 + x.beliefs)) {
                    todo.push(x);
                }
            }
        }
        return sets;
    }

    boolean canBelieve(int c, int all, int none) {
        who(c);
        allow(all >= 0 && all <= 63 && none >= 0 && none <= 63 && (all & none) == 0);
        if (who(c).fate != 0) {
            return false;
        }
        for (int set : reach(who(c), new HashSet<>())) {
            if ((set & all) == all && (set & none) == 0) {
                return true;
            }
        }
        return false;
    }

    private int fewest;
    private List<Integer> firstOrder;

    private void permute(List<Integer> done, int sum, int help, Map<Integer, Integer> lengths) {
        boolean complete = true;
        for (int c = 0; c < now.creatures.size(); c++) {
            if (now.creatures.get(c).fate != 0 || done.contains(c)) {
                continue;
            }
            complete = false;
            int key = c * 100 + help;
            if (!lengths.containsKey(key)) {
                String row = shortest(now.creatures.get(c), help);
                lengths.put(key, row == null ? -1 : row.length());
            }
            if (lengths.get(key) > 0) {
                List<Integer> more = new ArrayList<>(done);
                more.add(c);
                permute(more, sum + lengths.get(key), help + now.creatures.get(c).help, lengths);
            }
        }
        if (complete && (firstOrder == null || sum < fewest)) {
            fewest = sum;
            firstOrder = done;
        }
    }

    int order(int i) {
        need(i >= -1 && i < Integer.bitCount(now.bits(0)));
        firstOrder = null;
        permute(new ArrayList<>(), 0, now.help(), new HashMap<>());
        if (firstOrder == null) {
            return -2;
        }
        return i == -1 ? fewest : firstOrder.get(i);
    }

    // ---- days that only go by

    private Scene later(int days, int guarded) {
        Scene s = now.copy();
        s.guarded = guarded;
        for (int i = 0; i < days; i++) {
            pass(s);
        }
        return s;
    }

    int stolen(int days) {
        allow(days >= 0 && days <= 60);
        return later(days, now.guarded).bits(2);
    }

    int cord(int c, int days) {
        who(c);
        allow(days >= 0 && days <= 60);
        return later(days, now.guarded).creatures.get(c).cord;
    }

    int when(int c) {
        who(c);
        for (int d = 0; d <= 60; d++) {
            if (later(d, now.guarded).creatures.get(c).fate == 2) {
                return d;
            }
        }
        return -1;
    }

    private int kept(int days, int guarded) {
        return later(days, guarded).creatures.stream().filter(c -> c.fate == 1).mapToInt(c -> c.price).sum();
    }

    int toGuard(int days) {
        allow(days >= 1 && days <= 60);
        int most = -1;
        for (int c = 0; c < now.creatures.size(); c++) {
            if (who(c).fate == 1) {
                most = Math.max(most, kept(days, c));
            }
        }
        if (most <= kept(days, -1)) {
            return -1;
        }
        for (int c = 0; c < now.creatures.size(); c++) {
            if (who(c).fate == 1 && kept(days, c) == most) {
                return c;
            }
        }
        throw new AssertionError();
    }

    int loot(int days) {
        allow(days >= 0 && days <= 60);
        return later(days, now.guarded).creatures.stream().filter(c -> c.fate == 2).mapToInt(c -> c.price).sum();
    }

    // ---- hunters, tales

    private boolean isSet(int creatures) {
        return creatures >= 0 && creatures < 1 << now.creatures.size();
    }

    int payers(int creatures, int price) {
        allow(isSet(creatures) && price >= 0 && price <= 999);
        int bits = 0;
        for (int h = 0; h < told.hunters.size(); h++) {
            boolean can = told.hunters.get(h)[1] >= price;
            for (int c = 0; c < now.creatures.size(); c++) {
                can &= (creatures >> c) % 2 == 0 || told.hunters.get(h)[0] >= who(c).strength;
            }
            bits += can ? 1 << h : 0;
        }
        return bits;
    }

    int few(int creatures, int hunters) {
        allow(isSet(creatures) && hunters >= 0 && hunters <= 5);
        for (int price = 0; price <= 999; price++) {
            if (Integer.bitCount(payers(creatures, price)) <= hunters) {
                return price;
            }
        }
        return -1;
    }

    int offer(int creatures, int what) {
        need(what == 0 || what == 1);
        allow(isSet(creatures));
        for (int price = 999; price >= 0; price--) {
            int who = payers(creatures, price);
            if (who != 0) {
                return what == 0 ? price : Integer.numberOfTrailingZeros(who);
            }
        }
        return -1;
    }

    int tellers() {
        int all = 0;
        for (int parts : told.tales) {
            all |= parts;
        }
        for (int many = 0; many <= 8; many++) {
            for (int set = 0; set < 256 && set < 1 << told.tales.size(); set++) {
                int parts = 0;
                for (int t = 0; t < told.tales.size(); t++) {
                    parts |= (set >> t) % 2 == 1 ? told.tales.get(t) : 0;
                }
                if (Integer.bitCount(set) == many && parts == all) {
                    return set;
                }
            }
        }
        throw new AssertionError();
    }

    int borrowed(int tale, int what) {
        need(tale >= 0 && tale < told.tales.size());
        need(what == 0 || what == 1);
        for (int many = 10; many >= 1; many--) {
            for (int t = 0; t < tale; t++) {
                if (Integer.bitCount(told.tales.get(t) & told.tales.get(tale)) == many) {
                    return what == 0 ? many : t;
                }
            }
        }
        return what == 0 ? 0 : -1;
    }

    int alone(int tale) {
        need(tale >= 0 && tale < told.tales.size());
        int bits = 0;
        for (int p = 0; p < 10; p++) {
            int many = 0;
            for (int parts : told.tales) {
                many += parts >> p & 1;
            }
            bits += many == 1 && (told.tales.get(tale) >> p & 1) == 1 ? 1 << p : 0;
        }
        return bits;
    }

    int like() {
        int many = 0;
        for (int a = 0; a < told.tales.size(); a++) {
            for (int b = 0; b < a; b++) {
                many += told.tales.get(a).equals(told.tales.get(b)) ? 1 : 0;
            }
        }
        return many;
    }

    private int[] gains(int[] first, int[] other, int a, int b, Creature c) {
        boolean firstCan = first[0] >= c.strength;
        boolean otherCan = other[0] >= c.strength;
        if (a == 0 && b == 0) {
            return new int[] {2, 2};
        }
        if (a == 1 && b == 0) {
            return new int[] {firstCan ? c.price : -5, 2};
        }
        if (a == 0) {
            return new int[] {2, otherCan ? c.price : -5};
        }
        if (firstCan && otherCan) {
            if (first[0] == other[0]) {
                return new int[] {0, 0};
            }
            return first[0] > other[0] ? new int[] {c.price - 10, -5} : new int[] {-5, c.price - 10};
        }
        return new int[] {firstCan ? c.price : -5, otherCan ? c.price : -5};
    }

    int game(int h, int o, int c, int what) {
        need(h >= 0 && h < told.hunters.size() && o >= 0 && o < told.hunters.size());
        who(c);
        need(what == 0 || what == 1);
        allow(h != o);
        int many = 0;
        int first = -1;
        for (int code : new int[] {11, 10, 1, 0}) {
            int a = code / 10;
            int b = code % 10;
            int[] it = gains(told.hunters.get(h), told.hunters.get(o), a, b, who(c));
            int[] one = gains(told.hunters.get(h), told.hunters.get(o), 1 - a, b, who(c));
            int[] two = gains(told.hunters.get(h), told.hunters.get(o), a, 1 - b, who(c));
            if (one[0] <= it[0] && two[1] <= it[1]) {
                many++;
                first = code;
            }
        }
        return what == 0 ? many : first;
    }

    // ---- marks

    int mark(int c, int step, int belief, boolean has) {
        who(c);
        need(belief >= 0 && belief <= 5);
        if (marks.size() == 8 || step < 1 || step > 4) {
            status[2]++;
            return -1;
        }
        marks.add(new int[] {c, step, belief, has ? 1 : 0});
        return marks.size();
    }

    void forget() {
        marks.clear();
    }

    /** Every row that is as the marks say: its digits, then the beliefs behind each step. */
    private List<int[]> rows(int c, int tries) {
        List<int[]> out = new ArrayList<>();
        int n = told.tricks.size();
        int all = (int) Math.pow(n, tries);
        for (int code = 0; code < all; code++) {
            int[] row = new int[1 + tries];
            int rest = code;
            int beliefs = who(c).beliefs;
            boolean fits = true;
            for (int k = 1; k <= tries; k++) {
                int unit = (int) Math.pow(n, tries - k);
                int t = rest / unit;
                rest %= unit;
                row[0] = row[0] * 10 + t;
                if (works(told.tricks.get(t), beliefs)) {
                    beliefs = (beliefs | told.tricks.get(t)[2]) & ~told.tricks.get(t)[3];
                }
                row[k] = beliefs;
                for (int[] m : marks) {
                    fits &= m[0] != c || m[1] != k || (beliefs >> m[2] & 1) == m[3];
                }
            }
            if (fits) {
                out.add(row);
            }
        }
        return out;
    }

    int how(int c, int tries, int what) {
        who(c);
        need(what == 0 || what == 1);
        allow(tries >= 1 && tries <= 4);
        List<int[]> rows = rows(c, tries);
        if (what == 0) {
            return rows.size();
        }
        return rows.isEmpty() ? -1 : rows.get(0)[0];
    }

    int next(int c, int tries, int what) {
        who(c);
        need(what == 0 || what == 1);
        allow(tries >= 1 && tries <= 4);
        List<int[]> rows = rows(c, tries);
        int best = -1;
        int most = 0;
        for (int k = 1; k <= tries; k++) {
            Set<Integer> sets = new HashSet<>();
            for (int[] row : rows) {
                sets.add(row[k]);
            }
            if (sets.size() > most) {
                most = sets.size();
                best = k;
            }
        }
        return what == 0 ? best : most;
    }

    // ---- the rest

    int spiders(int seed, int many, int what) {
        need(what >= 0 && what <= 2);
        allow(many >= 0 && many <= 30);
        int[] sums = new int[3];
        long s = seed;
        for (int i = 0; i < many; i++) {
            Scene scene = now.copy();
            for (int d = 0; d < 6; d++) {
                if (!scene.creatures.isEmpty() && !told.tricks.isEmpty()) {
                    s = s * 1103515245L + 12345L & 0xffffffffL;
                    Creature c = scene.creatures.get((int) (s / 65536 % 32768) % scene.creatures.size());
                    s = s * 1103515245L + 12345L & 0xffffffffL;
                    int[] t = told.tricks.get((int) (s / 65536 % 32768) % told.tricks.size());
                    if (mayTry(scene, c, t)) {
                        scene.coins -= t[5];
                        tried(c, t, scene.help());
                    }
                }
                pass(scene);
            }
            sums[0] += Integer.bitCount(scene.bits(1));
            sums[1] += Integer.bitCount(scene.bits(2));
            sums[2] = Math.max(sums[2], scene.coins);
        }
        return sums[what];
    }

    int fooled(int t) {
        int bits = 0;
        for (int c = 0; c < now.creatures.size(); c++) {
            bits += who(c).fate == 0 && works(which(t), who(c).beliefs) ? 1 << c : 0;
        }
        which(t);
        return bits;
    }

    int lacking(int c, int t) {
        Creature x = who(c);
        int[] trick = which(t);
        int bits = 0;
        for (int b = 0; b < 6; b++) {
            boolean has = (x.beliefs >> b & 1) == 1;
            bits += (trick[0] >> b & 1) == 1 && !has ? 1 << b : 0;
            bits += (trick[1] >> b & 1) == 1 && has ? 64 << b : 0;
        }
        return bits;
    }

    int useless() {
        Set<Integer> used = new HashSet<>();
        for (Creature c : now.creatures) {
            if (c.fate == 0) {
                reach(c, used);
            }
        }
        int bits = 0;
        for (int t = 0; t < told.tricks.size(); t++) {
            bits += used.contains(t) ? 0 : 1 << t;
        }
        return bits;
    }

    int firm(int c) {
        if (who(c).fate != 0) {
            return -1;
        }
        Set<Integer> sets = reach(who(c), new HashSet<>());
        int bits = 0;
        for (int b = 0; b < 6; b++) {
            int bit = 1 << b;
            bits += sets.stream().noneMatch(s -> (s & bit) != 0) ? bit : 0;
            bits += sets.stream().noneMatch(s -> (s & bit) == 0) ? bit * 64 : 0;
        }
        return bits;
    }

    int nearest() {
        int best = -1;
        int least = Integer.MAX_VALUE;
        for (int c = 0; c < now.creatures.size(); c++) {
            int tries = plan(c, -1);
            if (tries > 0 && tries < least) {
                best = c;
                least = tries;
            }
        }
        return best;
    }

    private static Deque<Scene> copies(Deque<Scene> scenes) {
        Deque<Scene> out = new ArrayDeque<>();
        for (Scene s : scenes) {
            out.addLast(s.copy());
        }
        return out;
    }

    void image() {
        imageScene = now.copy();
        imageActs = copies(acts);
        imageMarks = new ArrayList<>(marks);
    }

    boolean restore() {
        if (imageScene == null) {
            return false;
        }
        now = imageScene.copy();
        acts = copies(imageActs);
        marks = new ArrayList<>(imageMarks);
        return true;
    }
}
