import java.util.NoSuchElementException;
import java.util.function.Supplier;
import java.util.function.ToLongFunction;

/**
 * Calls that must change nothing but perhaps one number of STATUS: each is made on one of two objects that came about
 * by the same calls, and then all that can be seen of both is compared.
 */
final class Quiet {
    private static final int NO_STATUS = -1;
    private static final long NO_SUCH = Long.MIN_VALUE;
    private static final long ILLEGAL = Long.MIN_VALUE + 1;
    private static final long OTHER = Long.MIN_VALUE + 2;

    private final Supplier<SpiderTales> maker;

    Quiet(Supplier<SpiderTales> maker) {
        this.maker = maker;
    }

    /** A question: it answers, and nothing changes. */
    void answers(String call, ToLongFunction<SpiderTales> asked, long due) {
        compare(call, asked, due, NO_STATUS);
    }

    /** A call that is refused, and counted. */
    void refuses(String call, ToLongFunction<SpiderTales> asked, long due, int status) {
        compare(call, asked, due, status);
    }

    void noSuch(String call, ToLongFunction<SpiderTales> asked) {
        compare(call, asked, NO_SUCH, NO_STATUS);
    }

    void illegal(String call, ToLongFunction<SpiderTales> asked) {
        compare(call, asked, ILLEGAL, NO_STATUS);
    }

    private static long answer(ToLongFunction<SpiderTales> asked, SpiderTales x) {
        try {
            return asked.applyAsLong(x);
        } catch (RuntimeException e) {
            return e.getClass() == NoSuchElementException.class ? NO_SUCH
                    : e.getClass() == IllegalArgumentException.class ? ILLEGAL : OTHER;
        }
    }

    private void compare(String call, ToLongFunction<SpiderTales> asked, long due, int status) {
        SpiderTales asks = maker.get();
        SpiderTales rests = maker.get();
        Check.due(call + " (" + NO_SUCH + " NoSuchElementException, " + ILLEGAL + " IllegalArgumentException, "
                + OTHER + " another)", answer(asked, asks), due);
        for (int what = 0; what < 3; what++) {
            int more = what == status ? 1 : 0;
            Check.due("STATUS " + what + " behind " + call, asks.count(14 + what), rests.count(14 + what) + more);
        }
        Check.due("fault() behind " + call, asks.fault(), rests.fault());
        Check.due("bytes behind " + call, asks.count(13), rests.count(13));
        Check.same("all behind " + call, Look.whole(asks), Look.whole(rests));
        Check.same("the tape behind " + call, Look.tape(asks), Look.tape(rests));
    }
}
