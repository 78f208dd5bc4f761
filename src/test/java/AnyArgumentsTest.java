import java.util.NoSuchElementException;
import java.util.Random;

/** Whatever is asked, in whatever state: no call throws but value(), key(), serial(), and these as the document says. */
public final class AnyArgumentsTest {
    private static final Due due = new Due("AnyArgumentsTest");
    private static final int MOST_CALLS = 512;
    private static final int RUNS = 600;
    private static final int[] ODD = {Integer.MIN_VALUE, Integer.MIN_VALUE + 1, -1001, -1000, -64, -9, -3, -2, -1, 0, 0, 0, 1, 1, 1, 2,
        2, 3, 4, 5, 6, 7, 8, 9, 10, 11, 23, 24, 25, 31, 32, 33, 39, 40, 41, 59, 60, 61, 63, 64, 65, 255, 256, 400, 940, 941, 999, 1000,
        1001, 65536, 1 << 30, Integer.MAX_VALUE - 1, Integer.MAX_VALUE};
    private static final String[] WORLDS = {"", "site s;", "site s; key a s 999;",
        "site s;site t;site u;key a s 1;key b t 2;key c u 3;key d s 4;key e t 5;key f u 6;key g s 7;key h t 8;key i u 9;key j s 10;"
        + "copy m 1 first;copy n 4 last;copy o 2 first;epoch 1;link 9;", "site s;key a s 0;key b s 7;copy m 4 last;epoch 1;link 0;",
        "copy m 3 last; link 0; epoch 20;"};
    private static final String[] TRANSES = {"a = a + 1;", "at a = at a + at a - at a;", "need at a < 5; at b = a;", "b = at a - 1;",
        "a = 0 - 999; a = a + a + a + a; a = a + a + a + a; a = a + a + a + a;", "need a = 0;", "j = at j + at i; at j = j - 999;"};
    private static final String[] BOOKS = {"", "check; tick 60; check; tick 60;", "put s 0; put s 1; tick 3; crash m; tick 9;", "tick 60;"};
    private static final String[] SENTENCES = {"done or not ready and (wide or tries > 1)", "reads a or writes a", "from s and place < 30"};

    private final Random draws;
    private final AgreedInput x = new AgreedInput();
    private int calls;
    private String latest = "";

    private AnyArgumentsTest(int seed) {
        draws = new Random(seed);
    }

    private int odd() {
        return draws.nextInt(12) == 0 ? draws.nextInt() : ODD[draws.nextInt(ODD.length)];
    }

    private String oneOf(String[] texts) {
        return texts[draws.nextInt(texts.length)];
    }

    private void tape(String text) {
        latest = "tape of " + text;
        calls += 2 + (text.length() + 19) / 20;
        Due.tape(x, text);
    }

    /** A text as it should be, one of bytes that are drawn, or what is left there. */
    private void anyTape(String[] texts) {
        int kind = draws.nextInt(8);
        if (kind > 1) {
            tape(oneOf(texts));
        } else if (kind == 0) {
            StringBuilder text = new StringBuilder();
            for (int i = draws.nextInt(60); i > 0; i--) {
                text.append((char) draws.nextInt(draws.nextBoolean() ? 256 : 11));
            }
            tape(text.toString());
        }
    }

    private int text() {
        switch (draws.nextInt(8)) {
            case 0:
                anyTape(WORLDS);
                latest = "world()";
                return x.world();
            case 1: case 2: case 3:
                anyTape(TRANSES);
                latest = "submit()";
                return x.submit(odd());
            case 4:
                anyTape(BOOKS);
                latest = "book()";
                return x.book(odd());
            case 5:
                anyTape(SENTENCES);
                latest = "sentence()";
                return x.sentence();
            case 6:
                anyTape(new String[] {"\0\0", "\0\0\1\1", "\1\7", "\0\0\0\0\0\0\0\0\0\0\0\0"});
                latest = "so()";
                return x.so();
            default:
                latest = "feed(), end()";
                return x.feed(odd(), odd(), odd(), odd(), odd()) + (x.end(odd()) ? 1 : 0);
        }
    }

    private int act(int a, int b) {
        switch (draws.nextInt(12)) {
            case 0: case 1: return x.put(a, b);
            case 2: return x.check();
            case 3: return x.crash(a);
            case 4: case 5: case 6: return x.ticks(a);
            case 7: return x.undo();
            case 8: return x.drawn(a, b);
            case 9: return x.image(a) ? 1 : 0;
            case 10: return x.restore(a) ? 1 : 0;
            default: return x.odds(a, b);
        }
    }

    private int look(int a, int b, int c) {
        switch (draws.nextInt(24)) {
            case 0: return x.fault();
            case 1: return x.now(a);
            case 2: return x.trans(a, b);
            case 3: return x.arrived(a, b);
            case 4: return x.entry(a, b);
            case 5: return x.how(a, b);
            case 6: return x.foreseen(a, b);
            case 7: return x.asks(a, b, c);
            case 8: return x.ready(a, b);
            case 9: return x.waits(a, b);
            case 10: return x.same();
            case 11: return x.chain();
            case 12: return x.least();
            case 13: return x.over();
            case 14: return x.soAt(a);
            case 15: return x.ask();
            case 16: return x.told(a);
            case 17: return x.said(a);
            case 18: return x.count(a);
            case 19: return x.end(a) ? 1 : 0;
            default: return mayThrow(a, b);
        }
    }

    private int mayThrow(int a, int b) {
        try {
            switch (draws.nextInt(3)) {
                case 0: return x.value(a, b);
                case 1: return x.key(a, b);
                default: return x.serial(a);
            }
        } catch (NoSuchElementException e) {
            return 0;
        }
    }

    private void go(int seed) {
        try {
            tape(WORLDS[draws.nextInt(WORLDS.length)]);
            x.world();
            while (calls + 80 < MOST_CALLS) {
                int kind = draws.nextInt(10);
                int a = odd();
                int b = odd();
                int c = odd();
                latest = "a call of " + a + ", " + b + ", " + c;
                calls++;
                int ignored = kind < 2 ? text() : kind < 5 ? act(a, b) : look(a, b, c);
            }
            due.is("run " + seed + " stays within " + MOST_CALLS + " calls", calls < MOST_CALLS, true);
        } catch (RuntimeException e) {
            due.is("run " + seed + ", call " + calls + ", " + latest + " threw " + e, false, true);
        }
    }

    public static void main(String[] args) {
        int runs = args.length > 0 ? Integer.parseInt(args[0]) : RUNS;
        for (int seed = 0; seed < runs; seed++) {
            new AnyArgumentsTest(seed).go(seed);
        }
        due.finish();
    }
}
