import java.util.NoSuchElementException;
import java.util.function.IntSupplier;

/** Counts answers that are not as due, and feeds texts. */
final class Due {
    static final int NO_SUCH = Integer.MIN_VALUE + 77;
    private final String name;
    private String test = "";
    private int calls;
    private int wrong;

    Due(String name) {
        this.name = name;
    }

    /** Which test's answers come now. */
    void at(String nextTest) {
        test = nextTest;
    }

    void is(String call, long got, long due) {
        calls++;
        if (got != due) {
            tellWrong(call, Long.toString(got), Long.toString(due));
        }
    }

    void is(String call, String got, String due) {
        calls++;
        if (!got.equals(due)) {
            int from = Math.max(0, unlikeAt(got, due) - 40);
            tellWrong(call, part(got, from), part(due, from));
        }
    }

    /** Where two texts that are not alike go apart. */
    private static int unlikeAt(String one, String other) {
        int i = 0;
        while (i < one.length() && i < other.length() && one.charAt(i) == other.charAt(i)) {
            i++;
        }
        return i;
    }

    private static String part(String text, int from) {
        int to = Math.min(text.length(), from + 120);
        return (from > 0 ? ".." : "") + text.substring(from, to) + (to < text.length() ? ".." : "");
    }

    private void tellWrong(String call, String got, String due) {
        wrong++;
        if (wrong <= 40) {
            System.out.println(name + ": " + test + ": " + call + " answered " + got + ", due is " + due);
        }
    }

    void is(String call, boolean got, boolean due) {
        is(call, got ? 1 : 0, due ? 1 : 0);
    }

    void throwsNoSuch(String call, IntSupplier asked) {
        is(call + " (NoSuchElementException)", answer(asked), NO_SUCH);
    }

    /** The answer, or NO_SUCH for the one exception that the document names; any other one ends the test. */
    static long answer(IntSupplier asked) {
        try {
            return asked.getAsInt();
        } catch (NoSuchElementException e) {
            return NO_SUCH;
        }
    }

    /** A new object with a WORLD, and TRANS that arrived at its first SITE. */
    AgreedInput with(String world, String... transes) {
        AgreedInput x = new AgreedInput();
        is("world() of " + world, world(x, world) >= 0, true);
        for (int n = 0; n < transes.length; n++) {
            is("submit() of " + transes[n], submit(x, 0, transes[n]), n);
        }
        return x;
    }

    void ticksTo(AgreedInput x, int tick) {
        for (int i = 0; i < 20 && x.now(0) < tick; i++) {
            x.ticks(Math.min(60, tick - x.now(0)));
        }
        is("the TICK", x.now(0), tick);
    }

    /** That a SENTENCE may be said of the ENTRIES at these places alone. */
    void says(AgreedInput x, String sentence, int... places) {
        is("sentence() of " + sentence, sentence(x, sentence) > 0, true);
        is("said(NONE) of " + sentence, x.said(AgreedInput.NONE), places.length);
        for (int i = 0; i < places.length; i++) {
            is("said(" + i + ") of " + sentence, x.said(i), places[i]);
        }
        is("said() behind them of " + sentence, x.said(places.length), AgreedInput.NONE);
    }

    boolean isWrong() {
        return wrong > 0;
    }

    void finish() {
        System.out.println(name + ": " + calls + " answers, " + wrong + " wrong");
        if (wrong > 0) {
            System.exit(1);
        }
    }

    static int number(byte[] bytes, int from) {
        int n = 0;
        for (int i = from; i < from + 4; i++) {
            n = n << 8 | (i < bytes.length ? bytes[i] & 255 : 0);
        }
        return n;
    }

    static String times(int n, String part) {
        return part.repeat(n);
    }

    /** The tape is this text then. */
    static void tape(AgreedInput x, String text) {
        byte[] bytes = text.getBytes(java.nio.charset.StandardCharsets.ISO_8859_1);
        x.end(0);
        for (int i = 0; i < bytes.length; i += 20) {
            x.feed(number(bytes, i), number(bytes, i + 4), number(bytes, i + 8), number(bytes, i + 12), number(bytes, i + 16));
        }
        x.end(bytes.length);
    }

    static int world(AgreedInput x, String text) {
        tape(x, text);
        return x.world();
    }

    static int submit(AgreedInput x, int s, String text) {
        tape(x, text);
        return x.submit(s);
    }

    static int book(AgreedInput x, int lives, String text) {
        tape(x, text);
        return x.book(lives);
    }

    static int sentence(AgreedInput x, String text) {
        tape(x, text);
        return x.sentence();
    }

    static int so(AgreedInput x, int... pairs) {
        StringBuilder text = new StringBuilder();
        for (int b : pairs) {
            text.append((char) b);
        }
        tape(x, text.toString());
        return x.so();
    }
}
