import java.util.NoSuchElementException;
import java.util.function.LongSupplier;

/** Counts and prints answers that are not due; makes objects from texts. */
final class Check {
    private static int wrong = 0;
    private static String part = "";

    private Check() {
    }

    static void part(String name) {
        part = name;
    }

    static void due(String call, long got, long want) {
        if (got != want) {
            wrong++;
            System.out.println(part + ": " + call + " answered " + got + ", due is " + want);
        }
    }

    static void due(String call, boolean got, boolean want) {
        due(call, got ? 1 : 0, want ? 1 : 0);
    }

    static void same(String call, String got, String want) {
        if (!got.equals(want)) {
            wrong++;
            System.out.println(part + ": " + call + " is " + got + ", due is " + want);
        }
    }

    static void noSuch(String call, LongSupplier asked) {
        thrown(call, asked, NoSuchElementException.class);
    }

    static void illegal(String call, LongSupplier asked) {
        thrown(call, asked, IllegalArgumentException.class);
    }

    private static void thrown(String call, LongSupplier asked, Class<?> due) {
        try {
            long got = asked.getAsLong();
            wrong++;
            System.out.println(part + ": " + call + " answered " + got + ", due is " + due.getSimpleName());
        } catch (RuntimeException e) {
            if (e.getClass() != due) {
                wrong++;
                System.out.println(part + ": " + call + " threw " + e + ", due is " + due.getSimpleName());
            }
        }
    }

    static void end(String tests) {
        System.out.println(tests + (wrong == 0 ? ": all as due" : ": " + wrong + " wrong"));
        if (wrong != 0) {
            System.exit(1);
        }
    }

    /** Feeds a text, filled up with blanks; how many bytes the tape has. */
    static int feed(SpiderTales tales, String text) {
        int taped = tales.count(13);
        for (int i = 0; i < text.length(); i += 20) {
            int[] n = new int[5];
            for (int k = 0; k < 20; k++) {
                n[k / 4] = n[k / 4] << 8 | (i + k < text.length() ? text.charAt(i + k) : ' ');
            }
            taped = tales.feed(n[0], n[1], n[2], n[3], n[4]);
        }
        return taped;
    }

    static int read(SpiderTales tales, String text) {
        feed(tales, text);
        return tales.sky(text.length());
    }

    static SpiderTales of(String text) {
        SpiderTales tales = new SpiderTales();
        due("sky of " + text, read(tales, text), 0);
        return tales;
    }

    /** A text with this fault at this place. */
    static void fault(String text, int kind, int place) {
        SpiderTales tales = new SpiderTales();
        due("sky of " + text, read(tales, text), kind);
        due("fault of " + text, tales.fault(), place);
    }

    static void fine(String text) {
        fault(text, 0, SpiderTales.NONE);
    }
}
