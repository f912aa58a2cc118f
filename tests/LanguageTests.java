import java.io.IOException;
import java.lang.reflect.Array;
import java.lang.reflect.Constructor;
import java.lang.reflect.Field;
import java.lang.reflect.Method;
import java.lang.reflect.Modifier;
import java.nio.file.Files;
import java.nio.file.Path;
import java.util.ArrayList;
import java.util.Arrays;
import java.util.IdentityHashMap;
import java.util.List;
import java.util.Map;
import java.util.Set;
import java.util.TreeSet;
import java.util.regex.Matcher;
import java.util.regex.Pattern;

/** The public face, and what can be seen of LANGUAGE.md in the source and in the classes. */
public final class LanguageTests {
    private static final String[] FACE = {
        "int feed(int,int,int,int,int)", "int sky(int)", "int fault()", "int count(int)", "int creature(int,int)",
        "int trick(int,int)", "int attempt(int,int)", "int days(int)", "boolean guard(int)", "int give(int)",
        "int tell(int,int,boolean)", "int undo()", "int plan(int,int)", "int cheapest(int)",
        "boolean canBelieve(int,int,int)", "int order(int)", "int stolen(int)", "int cord(int,int)", "int when(int)",
        "int toGuard(int)", "int payers(int,int)", "int few(int,int)", "int tellers()", "int borrowed(int,int)",
        "int mark(int,int,int,boolean)", "void forget()", "int how(int,int,int)", "int next(int,int,int)",
        "int game(int,int,int,int)", "int spiders(int,int,int)", "int fooled(int)", "int lacking(int,int)",
        "int useless()", "int firm(int)", "int loot(int)", "int offer(int,int)", "int alone(int)", "int like()",
        "int nearest()", "void image()", "boolean restore()"
    };

    // of rule 4, what the program uses
    private static final Set<String> LIBRARY = Set.of("Integer.bitCount", "Math.max", "Math.min", "Arrays.fill",
            "System.arraycopy", "word.length", "word.charAt");

    private static int wrong = 0;

    public static void main(String[] args) throws IOException {
        face();
        classes();
        source();
        room();
        System.out.println("LanguageTests" + (wrong == 0 ? ": all as due" : ": " + wrong + " wrong"));
        if (wrong != 0) {
            System.exit(1);
        }
    }

    private static void hold(boolean holds, String rule) {
        if (!holds) {
            wrong++;
            System.out.println("LANGUAGE: " + rule);
        }
    }

    private static String told(Method method) {
        StringBuilder text = new StringBuilder(method.getReturnType().getSimpleName() + " " + method.getName() + "(");
        Class<?>[] types = method.getParameterTypes();
        for (int i = 0; i < types.length; i++) {
            text.append(i == 0 ? "" : ",").append(types[i].getSimpleName());
        }
        return text + ")";
    }

    private static void face() {
        Class<?> face = SpiderTales.class;
        hold(Modifier.isPublic(face.getModifiers()) && Modifier.isFinal(face.getModifiers()), "public and final");
        Set<String> due = new TreeSet<>(Arrays.asList(FACE));
        Set<String> names = new TreeSet<>();
        Set<String> there = new TreeSet<>();
        for (Method method : face.getDeclaredMethods()) {
            if (!Modifier.isPrivate(method.getModifiers())) {
                hold(Modifier.isPublic(method.getModifiers()) && !Modifier.isStatic(method.getModifiers()), told(method));
                there.add(told(method));
                names.add(method.getName());
            }
        }
        hold(there.equals(due), "the methods of the face are " + there);
        for (Field field : face.getDeclaredFields()) {
            boolean constant = field.getName().equals("NONE") && Modifier.isStatic(field.getModifiers());
            hold(Modifier.isPrivate(field.getModifiers()) != constant, "field " + field.getName());
        }
        Constructor<?>[] makers = face.getDeclaredConstructors();
        hold(makers.length == 1 && makers[0].getParameterCount() == 0 && Modifier.isPublic(makers[0].getModifiers()),
                "one constructor");
        List<Class<?>> all = new ArrayList<>(Arrays.asList(face.getDeclaredClasses()));
        all.add(face);
        for (Class<?> one : all) {
            for (Method method : one.getDeclaredMethods()) {
                boolean public1 = one == face && Modifier.isPublic(method.getModifiers());
                hold(public1 || !names.contains(method.getName()), "a name of the face: " + one + " " + method.getName());
            }
        }
    }

    private static void classes() {
        List<Class<?>> all = new ArrayList<>(Arrays.asList(SpiderTales.class.getDeclaredClasses()));
        all.add(SpiderTales.class);
        hold(all.size() <= 12, "at most some twelve classes: " + all.size());
        for (Class<?> one : all) {
            if (one != SpiderTales.class) {
                hold(Modifier.isStatic(one.getModifiers()) && Modifier.isPrivate(one.getModifiers()), one + " is static");
            }
            int fields = 0;
            for (Field field : one.getDeclaredFields()) {
                boolean fixed = Modifier.isStatic(field.getModifiers());
                hold(!fixed || Modifier.isFinal(field.getModifiers()), "static and not final: " + field);
                fields += fixed ? 0 : 1;
            }
            hold(fields <= 20, one + " has " + fields + " fields");
            for (Method method : one.getDeclaredMethods()) {
                hold(method.getParameterCount() <= 7, "parameters of " + method);
            }
        }
    }

    private static void source() throws IOException {
        String text = Files.readString(Path.of("src/main/java/SpiderTales.java"));
        String[] never = {"catch", "try", "finally", "synchronized", "assert", "->", "::", "package ", "Exact", "instanceof",
            "System.out", "java.io", "null", "hashCode", "toString", "yield", "native"};
        for (String word : never) {
            String plain = word.matches("[a-zA-Z]+") ? "\\b" + word + "\\b" : Pattern.quote(word);
            hold(!Pattern.compile(plain).matcher(withoutComments(text)).find(), "the source has " + word);
        }
        Matcher imports = Pattern.compile("import ([a-zA-Z.]+);").matcher(text);
        while (imports.find()) {
            hold(Set.of("java.util.Arrays", "java.util.NoSuchElementException").contains(imports.group(1)), imports.group());
        }
        Matcher used = Pattern.compile("\\b((?:Integer|Long|Math|Arrays|System|String|word)\\.\\w+)")
                .matcher(withoutComments(text));
        while (used.find()) {
            hold(LIBRARY.contains(used.group(1)), "the library's " + used.group(1));
        }
        for (char sign : text.toCharArray()) {
            hold(sign == '\n' || sign >= ' ' && sign <= '~', "a sign " + (int) sign);
        }
        Matcher thrown = Pattern.compile("throw new (\\w+)").matcher(text);
        while (thrown.find()) {
            hold(Set.of("NoSuchElementException", "IllegalArgumentException").contains(thrown.group(1)), thrown.group());
        }
        methods(text.split("\n"));
    }

    private static String withoutComments(String text) {
        return text.replaceAll("(?s)/\\*.*?\\*/", "").replaceAll("//[^\n]*", "");
    }

    /** An object and its arrays are made once, and small enough that many runs have room. */
    private static void room() throws IOException {
        SpiderTales tales = new SpiderTales();
        Map<Object, Boolean> parts = new IdentityHashMap<>();
        long size = sizeOf(tales, parts);
        hold(parts.size() < 100, "an object is made of " + parts.size());
        hold(size < 20000, "an object has " + size + " fields and elements");
        String text = withoutComments(Files.readString(Path.of("src/main/java/SpiderTales.java")));
        Matcher made = Pattern.compile("([^\n]*)\\bnew (\\w+)").matcher(text);
        while (made.find()) {
            boolean first = made.group(1).contains("private final ") || made.group(1).matches(" {12}\\w+ = ");
            hold(first || made.group(1).endsWith("throw "), "made in a call: " + made.group());
        }
    }

    private static long sizeOf(Object object, Map<Object, Boolean> parts) {
        if (object == null || parts.put(object, true) != null) {
            return 0;
        }
        if (object.getClass().isArray()) {
            return Array.getLength(object);
        }
        long sum = 0;
        for (Field field : object.getClass().getDeclaredFields()) {
            if (!Modifier.isStatic(field.getModifiers())) {
                sum++;
                if (!field.getType().isPrimitive()) {
                    sum += sizeOf(valueOf(field, object), parts);
                }
            }
        }
        return sum;
    }

    private static Object valueOf(Field field, Object object) {
        try {
            field.setAccessible(true);
            return field.get(object);
        } catch (IllegalAccessException e) {
            throw new IllegalStateException(e);
        }
    }

    /** A method begins at an indentation of 4 or 8 and ends by a brace there. */
    private static void methods(String[] lines) {
        for (int i = 0; i < lines.length; i++) {
            Matcher head = Pattern.compile("^( {4}| {8})[^ }].*\\{$").matcher(lines[i]);
            if (!head.find() || lines[i].contains(" class ")) {
                continue;
            }
            int end = i + 1;
            while (end < lines.length && !lines[end].equals(head.group(1) + "}")) {
                end++;
            }
            hold(end - i < 60, "a long method: " + lines[i].trim());
        }
    }
}
