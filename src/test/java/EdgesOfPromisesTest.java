import java.util.function.Consumer;
import java.util.function.IntUnaryOperator;

/** The bounds that each promise names: the last that is taken, the first that is not, and that a refused call leaves all. */
public final class EdgesOfPromisesTest {
    private static final int NONE = -1;
    private static final int LOW = Integer.MIN_VALUE;
    private static final int HIGH = Integer.MAX_VALUE;
    private static final Due due = new Due("EdgesOfPromisesTest");
    private static final String TWO = "site s;site t;key a s 1;key b t 2;key c t 4;copy m 1 first;copy n 2 last;epoch 2;link 1;";
    private static final String ONE = "site s;key a s 1;key b s 2;key c s 3;copy m 1 first;epoch 1;link 0;";

    /** TWO with 3 TRANS, 2 of them in the ORDER, a CHECK, a SENTENCE, an image, much that was told, and a tape. */
    private static AgreedInput busy() {
        AgreedInput x = due.with(TWO, "a = at a + c;", "need b < 9; b = b + 1;");
        x.ticks(3);
        x.check();
        x.put(1, 0);
        x.image(1);
        Due.sentence(x, "waiting or going");
        Due.so(x, 2, 4);
        Due.book(x, 0, "tick 3; put s 9;");
        Due.sentence(x, "reads d");
        Due.tape(x, "tick 2;");
        return x;
    }

    /** That a call leaves all as it was. */
    private static void leaves(String call, Consumer<AgreedInput> made) {
        AgreedInput x = busy();
        made.accept(x);
        due.is(call + " leaves fault()", x.fault(), 3);
        due.is(call + " leaves the tape", x.count(5), 7);
        due.is(call + " leaves the tape's bytes", x.book(0), NONE);
        AgreedInput y = busy();
        y.book(0);
        due.is(call + " leaves all", Look.through(x), Look.through(y));
    }

    /** That there are answers from 0 to the last one alone. */
    private static void bounds(String name, int last, IntUnaryOperator asked) {
        int[] none = {LOW, -2, -1, last + 1, last + 2, HIGH};
        for (int n : none) {
            due.is(name + " of " + n, asked.applyAsInt(n), NONE);
        }
        for (int n = 0; n <= last; n++) {
            due.is(name + " of " + n + " is told", asked.applyAsInt(n) != NONE, true);
        }
    }

    private static void throwsBeyond(String name, int last, IntUnaryOperator asked) {
        int[] none = {LOW, -2, -1, last + 1, last + 2, HIGH};
        for (int n : none) {
            due.throwsNoSuch(name + " of " + n, () -> asked.applyAsInt(n));
        }
        for (int n = 0; n <= last; n++) {
            int i = n;
            due.is(name + " of " + n + " is told", Due.answer(() -> asked.applyAsInt(i)) != Due.NO_SUCH, true);
        }
    }

    private static void row(String name, IntUnaryOperator asked, int... wanted) {
        for (int i = 0; i < wanted.length; i++) {
            due.is(name + " of " + i, asked.applyAsInt(i), wanted[i]);
        }
    }

    // ---- 1 to 5

    static void promise01_aNewObjectHasNoSitesAndAnEmptyTape() {
        AgreedInput x = new AgreedInput();
        row("count", x::count, 0, 0, 1, 5, 2, 0);
        row("now", x::now, 0, 0, 0, 0, 0, NONE, 0, 0, 0);
        due.is("an empty tape", x.end(1), false);
        due.is("an empty tape", x.end(0), true);
        due.throwsNoSuch("value(0, 0)", () -> x.value(0, 0));
        due.throwsNoSuch("key(0, 0)", () -> x.key(0, 0));
        due.throwsNoSuch("serial(0)", () -> x.serial(0));
        row("trans(0)", what -> x.trans(0, what), NONE, NONE, NONE, NONE, NONE);
        row("entry(0)", what -> x.entry(0, what), NONE, NONE, NONE, NONE, NONE, NONE);
        row("none of these", what -> noneOfThese(x, what), NONE, NONE, NONE, NONE, NONE, NONE, NONE, NONE, NONE, NONE, NONE);
        due.is("fault()", x.fault(), 0);
        due.is("same()", x.same(), 1);
        due.is("chain()", x.chain(), 0);
        due.is("least()", x.least(), 0);
        due.is("over()", x.over(), 0);
        due.is("restore(0)", x.restore(0), false);
        due.is("restore(1)", x.restore(1), false);
        due.is("submit(0)", x.submit(0), -1000);
        due.is("crash(0)", x.crash(0), 1);
        due.is("check()", x.check(), 0);
    }

    static void promise01_its512thCallIsAnswered() {
        AgreedInput x = new AgreedInput();
        for (int call = 1; call < 512; call++) {
            due.is("ticks(1), call " + call, x.ticks(1), 1);
        }
        due.is("now(0), call 512", x.now(0), 511);
        AgreedInput y = due.with("site s;key a s 1;epoch 1;", "a = a + 1;");
        // nine calls are made
        for (int call = 10; call < 511; call += 3) {
            due.is("odds(10, .), call " + call, y.odds(10, call) >= 0, true);
            due.is("drawn(60, .), call " + (call + 1), y.drawn(60, call), 60);
            due.is("undo(), call " + (call + 2), y.undo(), 1);
        }
        due.is("same(), call 511", y.same(), 1);
        due.is("over(), call 512", y.over(), 2);
    }

    private static int noneOfThese(AgreedInput x, int what) {
        switch (what) {
            case 0: return x.arrived(0, 0);
            case 1: return x.how(0, 0);
            case 2: return x.foreseen(0, 0);
            case 3: return x.asks(0, 0, 0);
            case 4: return x.ready(0, 0);
            case 5: return x.waits(0, 0);
            case 6: return x.soAt(0);
            case 7: return x.ask();
            case 8: return x.told(0);
            case 9: return x.said(NONE);
            default: return x.undo();
        }
    }

    static void promise02_feedTakes940BytesAndNoMore() {
        AgreedInput x = new AgreedInput();
        for (int i = 1; i <= 47; i++) {
            due.is("feed()", x.feed(0, 0, 0, 0, 0), 20 * i);
        }
        due.is("to 960", x.feed(0, 0, 0, 0, 0), NONE);
        int[] lengths = {940, 939, 930, 922, 921};
        for (int length : lengths) {
            x.end(length);
            due.is("from " + length, x.feed(0, 0, 0, 0, 0), NONE);
            due.is("none came", x.count(5), length);
        }
        x.end(920);
        due.is("from 920", x.feed(0, 0, 0, 0, 0), 940);
        x.end(0);
        due.is("from 0", x.feed(0, 0, 0, 0, 0), 20);
    }

    static void promise02_feedThatIsRefusedLeavesTheTape() {
        AgreedInput x = new AgreedInput();
        Due.tape(x, "site s;" + " ".repeat(933));
        due.is("refused", x.feed(-1, -1, -1, -1, -1), NONE);
        due.is("count(5)", x.count(5), 940);
        x.end(900);
        due.is("world()", x.world(), 1);
    }

    static void promise02_feedPutsTheHighestByteFirst() {
        AgreedInput x = due.with(ONE, "a = 0;", "b = 255;", "c = 128;");
        x.ticks(1);
        x.feed(0x00000100 | 255, 0x02800000, 0, 0, 0);
        // 0, 0: a is 0; 1, 255; 2, 128
        x.end(6);
        due.is("so() of six bytes", x.so(), 1);
        due.is("soAt(0)", x.soAt(0), 3);
        // bytes 128 to 255 of numbers below 0
        x.feed(0x02800000 | 1, 0xff000000, 0, 0, 0);
        x.end(2);
        due.is("2, 128", x.so(), 1);
        x.feed(0x01ff02ff, 0x80ffffff, -1, LOW, HIGH);
        x.end(2);
        due.is("1, 255", x.so(), 2);
        x.feed(0xff000000, 0, 0, 0, 0);
        x.end(2);
        due.is("255 is no KEY", x.so(), NONE);
        Due.tape(x, "");
        // each of the five numbers, in their order
        x.feed('s' << 24 | 'i' << 16 | 't' << 8 | 'e', ' ' << 24 | 's' << 16 | ';' << 8 | 's',
            'i' << 24 | 't' << 16 | 'e' << 8 | ' ', 't' << 24 | ';' << 16 | ' ' << 8 | 'l', 'i' << 24 | 'n' << 16 | 'k' << 8 | ' ');
        due.is("count(5)", x.feed('3' << 24 | ';' << 16 | ' ' << 8 | '\n', 0x20202020, 0x20202020, 0x20202020, 0x0a0a0a0a), 40);
        due.is("world()", x.world(), 3);
        due.is("count(4)", x.count(4), 3);
    }

    static void promise03_endTakes0ToWhatItHas() {
        AgreedInput x = new AgreedInput();
        int[] wrong = {LOW, -2, -1, 1, 2, HIGH};
        for (int n : wrong) {
            due.is("end(" + n + ") of an empty tape", x.end(n), false);
            due.is("count(5)", x.count(5), 0);
        }
        due.is("end(0)", x.end(0), true);
        x.feed(1, 2, 3, 4, 5);
        int[] beyond = {LOW, -1, 21, 22, 940, HIGH};
        for (int n : beyond) {
            due.is("end(" + n + ") of 20", x.end(n), false);
            due.is("it stays", x.count(5), 20);
        }
        due.is("end(20)", x.end(20), true);
        due.is("count(5)", x.count(5), 20);
        due.is("end(19)", x.end(19), true);
        due.is("count(5)", x.count(5), 19);
        due.is("the last byte is gone", x.end(20), false);
        due.is("end(0)", x.end(0), true);
        due.is("count(5)", x.count(5), 0);
        due.is("end(1)", x.end(1), false);
    }

    static void promise03_endLeavesTheFirstBytes() {
        AgreedInput x = new AgreedInput();
        Due.tape(x, "site s;site t;site u;#");
        x.end(21);
        x.end(14);
        due.is("world()", x.world(), 2);
        // what comes behind a tape that was cut
        Due.tape(x, "epoch 3;;;;");
        x.end(8);
        x.feed(0x20202020, 'l' << 24 | 'i' << 16 | 'n' << 8 | 'k', ' ' << 24 | '4' << 16 | ';' << 8 | ' ', 0x20202020, 0x20202020);
        due.is("world()", x.world(), 2);
        due.is("count(3)", x.count(3), 3);
        due.is("count(4)", x.count(4), 4);
    }

    static void promise04_worldAnswersLinesOrBelow0() {
        AgreedInput x = new AgreedInput();
        due.is("no LINE", x.world(), 0);
        due.is("one", Due.world(x, "site s;"), 1);
        String all = "site s;site t;site u;copy m 1 first;copy n 1 last;copy o 1 last;epoch 1;link 1;";
        StringBuilder text = new StringBuilder(all);
        for (char k = 'a'; k < 'k'; k++) {
            text.append("key k").append(k).append(" u 1;");
        }
        due.is("as many as there can be", Due.world(x, text.toString()), 18);
        due.is("a FAULT at 0", Due.world(x, "#"), -1);
        due.is("a FAULT at 1", Due.world(x, " #"), -2);
        due.is("a FAULT at 900", Due.world(x, " ".repeat(901)), -901);
        due.is("it stays", x.count(1), 10);
        due.is("key(9, 0)", x.key(9, 0), 2);
    }

    static void promise04_worldEmptiesTheTape() {
        AgreedInput x = new AgreedInput();
        Due.world(x, "site s;");
        due.is("without a FAULT", x.count(5), 0);
        due.is("the next one is empty", x.world(), 0);
        due.is("count(0)", x.count(0), 0);
        Due.world(x, "site s");
        due.is("with one", x.count(5), 0);
        due.is("feed() begins anew", x.feed(0, 0, 0, 0, 0), 20);
    }

    static void promise04_aWorldWithAFaultLeavesAll() {
        AgreedInput x = busy();
        due.is("a FAULT", Due.world(x, "site s;site t;site u;site w;"), -1 - 21);
        due.is("it stays", Look.through(x), Look.through(busy()));
    }

    static void promise05_faultIs0AheadOfAnyAndWithoutOne() {
        AgreedInput x = new AgreedInput();
        due.is("ahead of any", x.fault(), 0);
        due.is("submit()", Due.submit(x, 0, "#"), -1000);
        due.is("behind a submit() of -1000", x.fault(), 0);
        Due.world(x, "epoch 0;");
        due.is("world()", x.fault(), 2);
        Due.world(x, ONE);
        due.is("world() without", x.fault(), 0);
        Due.submit(x, 0, "d = 1;");
        due.is("submit()", x.fault(), 3);
        Due.submit(x, 0, "a = 1;");
        due.is("submit() without", x.fault(), 0);
        Due.book(x, 1, "check");
        due.is("book()", x.fault(), 1);
        Due.book(x, 1, "tick 1;");
        due.is("book() without", x.fault(), 0);
        Due.sentence(x, "not ".repeat(8) + "done");
        due.is("sentence()", x.fault(), 4);
        Due.sentence(x, "done");
        due.is("sentence() without", x.fault(), 0);
        Due.book(x, 1, "crash m;tick 60;put s 23;");
        due.is("WRONG is no FAULT", x.fault(), 0);
    }

    static void promise05_faultIsLeftByWhatIsRefused() {
        AgreedInput x = due.with(ONE, "a = 1;");
        Due.sentence(x, "reads d");
        int[] sites = {-1, 1, LOW, HIGH};
        for (int s : sites) {
            Due.submit(x, s, "a = 1;");
            due.is("a submit() of -1000", x.fault(), 3);
        }
        int[] lives = {-1, 2, LOW, HIGH};
        for (int l : lives) {
            Due.book(x, l, "check;");
            due.is("a book() of -1000", x.fault(), 3);
        }
        Due.so(x, 0, 1);
        Due.so(x, 9, 9);
        x.image(0);
        x.ticks(2);
        x.undo();
        x.restore(0);
        due.is("other calls", x.fault(), 3);
        for (int n = 1; n < 24; n++) {
            x.put(0, 0);
        }
        Due.submit(x, 0, "a = 1;");
        due.is("a 25th TRANS", x.fault(), 3);
    }

    // ---- 6 to 11

    static void promise06_submitAtASiteAlone() {
        AgreedInput x = due.with(TWO);
        due.is("SITE 0", Due.submit(x, 0, "a = 1;"), 0);
        due.is("SITE 1", Due.submit(x, 1, "a = 1;"), 1);
        int[] none = {LOW, -2, -1, 2, 3, HIGH};
        for (int s : none) {
            due.is("SITE " + s, Due.submit(x, s, "a = 1;"), -1000);
            due.is("the tape stays", x.count(5), 6);
        }
        due.is("now(1)", x.now(1), 2);
        due.is("and can be taken", x.submit(1), 2);
        due.is("the tape is empty", x.count(5), 0);
        leaves("submit() at no SITE", y -> due.is("submit(2)", y.submit(2), -1000));
    }

    static void promise06_submitOf24Trans() {
        AgreedInput x = due.with("site s;key a s 1;epoch 20;");
        for (int n = 0; n < 23; n++) {
            due.is("submit()", Due.submit(x, 0, "a = 1;"), n);
        }
        due.is("the 24th with a FAULT", Due.submit(x, 0, "b = 1;"), -2);
        due.is("the 24th", Due.submit(x, 0, "a = 2;"), 23);
        due.is("the 25th", Due.submit(x, 0, "a = 3;"), -1000);
        due.is("the tape stays", x.count(5), 6);
        due.is("one with a FAULT", Due.submit(x, 0, "b = 1;"), -1000);
        due.is("fault()", x.fault(), 0);
        due.is("now(1)", x.now(1), 24);
        due.is("now(3)", x.now(3), 24);
        due.is("undo()", x.undo(), 7);
        due.is("the 24th again", Due.submit(x, 0, "a = 3;"), 23);
    }

    static void promise06_submitWithAFaultLeavesAll() {
        AgreedInput x = busy();
        due.is("a FAULT at 0", Due.submit(x, 0, ""), -2);
        due.is("a FAULT at 6", Due.submit(x, 1, "a = 1;;"), -2 - 6);
        due.is("the tape is empty", x.count(5), 0);
        due.is("a FAULT at 200", Due.submit(x, 1, "a = 1;" + " ".repeat(195)), -202);
        due.is("all stays", Look.through(x), Look.through(busy()));
    }

    static void promise07_putOfASiteAndATrans() {
        AgreedInput x = due.with(TWO, "a = 1;", "b = 1;");
        due.is("put(0, 0)", x.put(0, 0), 0);
        due.is("put(1, 1)", x.put(1, 1), 0);
        due.is("put(1, 3)", x.put(1, 3), 0);
        int[][] none = {{-1, 0}, {2, 0}, {0, -1}, {0, 5}, {LOW, 0}, {HIGH, 0}, {0, LOW}, {0, HIGH}, {2, 24}, {-1, -1}};
        for (int[] n : none) {
            due.is("put(" + n[0] + ", " + n[1] + ")", x.put(n[0], n[1]), NONE);
            leaves("put() of none", y -> y.put(n[0], n[1]));
        }
        due.is("now(1)", x.now(1), 5);
        due.is("put(0, 4)", x.put(0, 4), 0);
    }

    static void promise07_putOf24Trans() {
        AgreedInput x = due.with("site s;key a s 1;epoch 20;", "a = 1;");
        for (int n = 1; n < 24; n++) {
            due.is("put()", x.put(0, n - 1), 0);
        }
        due.is("there are 24", x.put(0, 0), 1);
        due.is("there are 24", x.put(0, 23), 1);
        due.is("no such TRANS", x.put(0, 24), NONE);
        due.is("no such SITE", x.put(1, 0), NONE);
        due.is("now(1)", x.now(1), 24);
        due.is("now(3)", x.now(3), 24);
        due.is("eight can be undone, the refused are none of them", x.undo(), 7);
        due.is("now(1)", x.now(1), 23);
        due.is("put()", x.put(0, 22), 0);
    }

    static void promise08_checkIsDoneOrOneIsOn() {
        AgreedInput x = due.with("site s;key a s 1;key b s 2;epoch 1;");
        due.is("check()", x.check(), 0);
        due.is("check()", x.check(), 1);
        x.ticks(1);
        due.is("one of two KEYS is TAKEN", x.check(), 1);
        x.ticks(1);
        due.is("it is over", x.check(), 0);
        due.is("it is on", x.now(4), 1);
        leaves("check() while one is on", y -> due.is("check()", y.check(), 1));
    }

    static void promise09_crashOfACopyAlone() {
        AgreedInput x = due.with(TWO, "a = 1;");
        int[] none = {LOW, -2, -1, 2, 3, HIGH};
        for (int c : none) {
            due.is("crash(" + c + ") of none", x.crash(c), NONE);
        }
        due.is("no ENTRY", x.crash(0), 1);
        due.is("no ENTRY", x.crash(1), 1);
        x.ticks(2);
        due.is("crash(0)", x.crash(0), 0);
        due.is("crash(1)", x.crash(1), 0);
        for (int c : none) {
            due.is("crash(" + c + ")", x.crash(c), NONE);
            leaves("crash(" + c + ")", y -> y.crash(c));
        }
        AgreedInput three = due.with("site s;key a s 1;copy m 1 last;copy n 1 last;copy o 1 last;epoch 1;", "a = 2;");
        three.ticks(2);
        due.is("crash(2) of three", three.crash(2), 0);
        due.is("value(2, 0)", three.value(2, 0), 1);
        due.is("value(1, 0)", three.value(1, 0), 2);
        due.is("crash(3) of three", three.crash(3), NONE);
    }

    static void promise10_ticksTakes1To60() {
        AgreedInput x = due.with(ONE);
        int[] wrong = {LOW, -1, 0, 61, 62, HIGH};
        for (int n : wrong) {
            due.is("ticks(" + n + ")", x.ticks(n), NONE);
            leaves("ticks(" + n + ")", y -> y.ticks(n));
        }
        due.is("now(0)", x.now(0), 0);
        due.is("ticks(1)", x.ticks(1), 1);
        due.is("ticks(60)", x.ticks(60), 60);
        due.is("ticks(59)", x.ticks(59), 59);
        due.is("now(0)", x.now(0), 120);
    }

    static void promise10_ticksEndWith1000() {
        int[] ahead = {939, 940, 941, 999, 1000};
        int[] went = {60, 60, 59, 1, 0};
        for (int i = 0; i < ahead.length; i++) {
            AgreedInput x = due.with(ONE);
            due.ticksTo(x, ahead[i]);
            due.is("ticks(60) from " + ahead[i], x.ticks(60), went[i]);
            due.is("now(0)", x.now(0), ahead[i] + went[i]);
        }
        AgreedInput y = due.with(ONE);
        due.ticksTo(y, 1000);
        due.is("not as told, at the end", y.ticks(61), NONE);
        due.is("not as told, at the end", y.ticks(0), NONE);
    }

    static void promise11_undoOf8AtMost() {
        for (int acts = 0; acts <= 18; acts++) {
            AgreedInput x = due.with(ONE);
            for (int i = 0; i < acts; i++) {
                x.ticks(1);
            }
            int kept = Math.min(acts, 8);
            for (int left = kept - 1; left >= 0; left--) {
                due.is("undo() of " + acts, x.undo(), left);
                due.is("the TICK", x.now(0), acts - kept + left);
            }
            due.is("undo() of none", x.undo(), NONE);
            due.is("it stays", x.now(0), acts - kept);
        }
    }

    static void promise11_undoAndActsBetween() {
        AgreedInput x = due.with(ONE);
        for (int i = 0; i < 10; i++) {
            x.ticks(1);
        }
        due.is("undo()", x.undo(), 7);
        due.is("undo()", x.undo(), 6);
        x.ticks(5);
        x.ticks(6);
        due.is("8 again", x.now(0), 19);
        x.ticks(7);
        int[] ticks = {19, 13, 8, 7, 6, 5, 4, 3};
        for (int i = 0; i < 8; i++) {
            due.is("undo()", x.undo(), 7 - i);
            due.is("the TICK", x.now(0), ticks[i]);
        }
        due.is("undo()", x.undo(), NONE);
        x.ticks(1);
        due.is("undo() of one", x.undo(), 0);
    }

    static void promise11_undoOfEachAct() {
        undoes("submit()", x -> Due.submit(x, 0, "c = 1;"));
        undoes("put()", x -> x.put(1, 1));
        undoes("crash()", x -> x.crash(1));
        undoes("ticks()", x -> x.ticks(1));
        undoes("drawn()", x -> x.drawn(1, 5));
        undoes("a BOOK", x -> Due.book(x, 1, "tick 1;"));
        undoes("a BOOK of which one LINE was lived", x -> Due.book(x, 1, "tick 1;put s 23;"));
        AgreedInput x = due.with(ONE);
        due.is("check()", x.check(), 0);
        due.is("undo()", x.undo(), 0);
        due.is("now(4)", x.now(4), 0);
        AgreedInput y = new AgreedInput();
        due.is("check() without KEYS", y.check(), 0);
        due.is("undo()", y.undo(), 0);
        due.is("undo()", y.undo(), NONE);
    }

    /** What is told of entries, copies and so on; not what book() told. */
    private static String soFar(AgreedInput x) {
        String look = Look.of(x);
        return look.substring(0, look.indexOf("told"));
    }

    private static void undoes(String name, Consumer<AgreedInput> act) {
        AgreedInput x = busy();
        String ahead = soFar(x);
        act.accept(x);
        due.is(name + " changes what is so", soFar(x).equals(ahead), false);
        due.is("undo() of " + name, x.undo(), 5);
        due.is(name + " is undone", soFar(x), ahead);
    }

    static void promise11_undoOfNoneThatWasRefused() {
        AgreedInput x = due.with(ONE, "a = 1;");
        due.is("undo()", x.undo(), 0);
        Due.submit(x, 0, "d = 1;");
        Due.submit(x, 1, "a = 1;");
        x.put(0, 0);
        x.put(1, 0);
        x.crash(0);
        x.crash(1);
        x.ticks(0);
        x.ticks(61);
        x.drawn(0, 1);
        x.drawn(61, 1);
        Due.book(x, 1, "");
        Due.book(x, 1, "crash m;");
        Due.book(x, 1, "tick 1");
        Due.book(x, 0, "tick 1;");
        Due.book(x, 2, "tick 1;");
        x.odds(1, 1);
        x.over();
        Due.sentence(x, "done");
        Due.so(x, 0, 1);
        x.image(0);
        due.is("undo()", x.undo(), NONE);
        x.check();
        x.check();
        due.is("undo() of the first alone", x.undo(), 0);
        due.ticksTo(x, 1000);
        x.ticks(1);
        x.drawn(1, 1);
        Due.book(x, 1, "tick 1;");
        due.is("ticks() of 0", x.undo(), 7);
    }

    static void promise11_undoLeavesWhatIsNotAnAct() {
        AgreedInput x = due.with(ONE, "a = 9;");
        x.ticks(2);
        Due.sentence(x, "done");
        Due.so(x, 0, 1);
        Due.book(x, 0, "tick 1;check;check;");
        x.image(1);
        Due.sentence(x, "reads d");
        Due.tape(x, "abc");
        x.undo();
        due.is("the tape", x.count(5), 3);
        due.is("fault()", x.fault(), 3);
        due.is("the SENTENCE", x.said(NONE), 0);
        due.is("soAt(0)", x.soAt(0), 0);
        due.is("ask()", x.ask(), 0);
        due.is("told(0)", x.told(0), 11);
        due.is("the image", x.restore(1), true);
        due.is("now(0)", x.now(0), 2);
        due.is("nothing can be undone", x.undo(), NONE);
    }

    // ---- 12 to 22

    static void promise12_nowOf0To8() {
        AgreedInput x = busy();
        row("now", x::now, 3, 3, 2, 1, 1, 2, 0, 0, 0);
        int[] none = {LOW, -2, -1, 9, 10, HIGH};
        for (int what : none) {
            due.is("now(" + what + ")", x.now(what), NONE);
        }
    }

    static void promise12_nowWithoutACheck() {
        AgreedInput x = busy();
        x.undo();
        due.is("without the PUT", x.now(1), 2);
        x.undo();
        row("without the CHECK", x::now, 3, 2, 2, 0, 0, NONE, 0, 0, 0);
    }

    static void promise12_nowAtTheBoundsOfTicksAndTrans() {
        AgreedInput x = due.with(ONE);
        due.is("TICK 0", x.now(0), 0);
        due.ticksTo(x, 1000);
        due.is("TICK 1000", x.now(0), 1000);
        for (int n = 0; n < 24; n++) {
            Due.submit(x, 0, "a = 1;");
        }
        due.is("24 TRANS", x.now(1), 24);
        due.is("24 arrived", x.now(3), 24);
    }

    static void promise13_valueOfACopyAndAKey() {
        AgreedInput x = due.with(TWO);
        for (int c = 0; c < 2; c++) {
            int copy = c;
            throwsBeyond("value(" + c + ", .)", 2, k -> x.value(copy, k));
        }
        for (int k = 0; k < 3; k++) {
            int key = k;
            throwsBeyond("value(., " + k + ")", 1, c -> x.value(c, key));
        }
        due.is("value(1, 2)", x.value(1, 2), 4);
        leaves("value() that throws", y -> due.throwsNoSuch("value(2, 3)", () -> y.value(2, 3)));
        AgreedInput without = due.with("site s;");
        throwsBeyond("value() without KEYS", NONE, k -> without.value(0, k));
    }

    static void promise14_keyOfAKeyAndWhat() {
        AgreedInput x = busy();
        for (int k = 0; k < 3; k++) {
            int key = k;
            throwsBeyond("key(" + k + ", .)", 2, what -> x.key(key, what));
        }
        for (int w = 0; w < 3; w++) {
            int what = w;
            throwsBeyond("key(., " + w + ")", 2, k -> x.key(k, what));
        }
        int[][] wanted = {{0, 1, 1}, {1, 2, 2}, {1, 4, 4}};
        for (int k = 0; k < 3; k++) {
            int key = k;
            row("key(" + k + ", .)", what -> x.key(key, what), wanted[k]);
        }
        leaves("key() that throws", y -> due.throwsNoSuch("key(0, 3)", () -> y.key(0, 3)));
    }

    static void promise14_keyHasATwinOrNone() {
        AgreedInput x = due.with(ONE, "b = 8;");
        due.throwsNoSuch("without a CHECK", () -> x.key(1, 3));
        x.check();
        due.throwsNoSuch("nothing is written", () -> x.key(1, 3));
        x.undo();
        x.ticks(1);
        x.check();
        Due.submit(x, 0, "c = 9;");
        x.ticks(1);
        due.throwsNoSuch("written ahead of POINT", () -> x.key(1, 3));
        x.ticks(1);
        due.is("written behind it", x.key(2, 3), 3);
        due.throwsNoSuch("another KEY", () -> x.key(0, 3));
        due.throwsNoSuch("no such KEY", () -> x.key(3, 3));
        due.throwsNoSuch("no such KEY", () -> x.key(-1, 3));
        x.ticks(1);
        due.throwsNoSuch("the CHECK is over", () -> x.key(2, 3));
        due.is("in the CHECKPOINT", x.key(2, 2), 3);
        due.is("in the CHECKPOINT", x.key(1, 2), 8);
    }

    static void promise15_transOfATransAndWhat() {
        AgreedInput x = busy();
        bounds("trans(., 0)", 2, n -> x.trans(n, 0));
        row("trans(0, .)", what -> x.trans(0, what), 0, 1, 1, 0, 1);
        row("trans(1, .)", what -> x.trans(1, what), 0, 2, 1, 1, 0);
        row("trans(2, .)", what -> x.trans(2, what), 1, 1, 1, NONE, 1);
        int[] none = {LOW, -1, 5, 6, HIGH};
        for (int what : none) {
            due.is("trans(0, " + what + ")", x.trans(0, what), NONE);
        }
        AgreedInput y = due.with("site s;key a s 1;epoch 20;");
        bounds("trans() without any", NONE, n -> y.trans(n, 1));
        for (int n = 0; n < 24; n++) {
            Due.submit(y, 0, "a = 1;".repeat(n % 6 + 1));
        }
        bounds("trans() of 24", 23, n -> y.trans(n, 1));
        row("1 to 6 STEPS", n -> y.trans(n, 1), 1, 2, 3, 4, 5, 6, 1);
    }

    static void promise15_transPlaceOfTheLastOneInTheOrder() {
        AgreedInput x = due.with("site s;key i s 1;key j s 2;key k s 3;epoch 1;", "i = 2;", "at i = 9;");
        due.is("not in the ORDER", x.trans(1, 3), NONE);
        x.ticks(1);
        due.is("one ENTRY", x.trans(1, 2), 1);
        due.is("its place", x.trans(1, 3), 1);
        x.ticks(2);
        due.is("two ENTRIES", x.trans(1, 2), 2);
        due.is("the place of the last", x.trans(1, 3), 2);
        due.is("of TRANS 0", x.trans(0, 3), 0);
    }

    static void promise15_transPlaceWhileTheLastOneHasOnlyArrived() {
        // the last one in the ORDER: one that has arrived anew has no place, the one ahead of it keeps its own
        AgreedInput x = due.with("site s;key i s 1;key j s 2;key k s 3;epoch 3;", "i = 2;", "at i = 9;");
        x.ticks(2);
        due.is("it has only arrived", x.trans(1, 3), NONE);
        x.ticks(3);
        due.is("one arrived anew", x.arrived(0, 0), 1);
        due.is("two ENTRIES", x.trans(1, 2), 2);
        due.is("the one in the ORDER", x.trans(1, 3), 1);
        x.ticks(1);
        due.is("both are", x.trans(1, 3), 2);
        due.is("undo()", x.undo(), 4);
        due.is("the one in the ORDER", x.trans(1, 3), 1);
    }

    static void promise16_arrivedAtASite() {
        AgreedInput x = due.with("site s;site t;site u;key a s 1;epoch 2;");
        Due.submit(x, 1, "a = 1;");
        Due.submit(x, 1, "a = 2;");
        Due.submit(x, 2, "a = 3;");
        bounds("arrived(0, .)", NONE, i -> x.arrived(0, i));
        bounds("arrived(1, .)", 1, i -> x.arrived(1, i));
        bounds("arrived(2, .)", 0, i -> x.arrived(2, i));
        row("arrived(1, .)", i -> x.arrived(1, i), 0, 1);
        int[] none = {LOW, -1, 3, 4, HIGH};
        for (int s : none) {
            due.is("arrived(" + s + ", 0)", x.arrived(s, 0), NONE);
        }
        x.ticks(1);
        due.is("not in the ORDER", x.arrived(1, 1), 1);
        x.ticks(1);
        bounds("all are in the ORDER", NONE, i -> x.arrived(1, i));
    }

    static void promise17_entryOfTheOrderAndWhat() {
        AgreedInput x = busy();
        bounds("entry(., 0)", 1, i -> x.entry(i, 0));
        bounds("entry(0, .)", 5, what -> x.entry(0, what));
        bounds("entry(1, .)", 5, what -> x.entry(1, what));
        // a is 1: at a is b
        row("entry(0, .)", what -> x.entry(0, what), 0, 0, 6, 1, 1, 0);
        row("entry(1, .)", what -> x.entry(1, what), 1, 0, 0, 2, 0, 1);
        due.is("none of the one that arrived", x.entry(2, 0), NONE);
        AgreedInput y = due.with(ONE, "a = 1;");
        bounds("entry() of an empty ORDER", NONE, i -> y.entry(i, 0));
    }

    static void promise18_howOfACopyAndAnEntry() {
        AgreedInput x = busy();
        bounds("how(0, .)", 1, i -> x.how(0, i));
        bounds("how(1, .)", 1, i -> x.how(1, i));
        bounds("how(., 0)", 1, c -> x.how(c, 0));
        bounds("how(., 1)", 1, c -> x.how(c, 1));
        AgreedInput y = due.with(ONE, "a = 1;");
        bounds("how() of an empty ORDER", NONE, i -> y.how(0, i));
    }

    static void promise18_howIs0To4() {
        AgreedInput x = due.with("site s;site t;key i s 1;key j s 2;key k t 3;copy m 4 first;epoch 1;link 5;", "i = 2;", "j = k;",
            "at i = 9;", "need i = 1;", "j = 3;");
        x.ticks(3);
        row("how(0, .)", i -> x.how(0, i), 2, 1, 0, 4, 0);
        x.ticks(4);
        row("how(0, .)", i -> x.how(0, i), 2, 2, 3, 4, 0, 0);
        x.ticks(1);
        row("how(0, .)", i -> x.how(0, i), 2, 2, 3, 4, 2, 1);
    }

    static void promise19_foreseenOfAnEntryAndAnAt() {
        AgreedInput x = due.with(TWO, "a = 1;", "at a = 1;", "at a = at b + at c - at a;");
        bounds("nothing is in the ORDER", NONE, i -> x.foreseen(i, 0));
        x.ticks(2);
        bounds("foreseen(0, .) without an 'at'", NONE, j -> x.foreseen(0, j));
        bounds("foreseen(1, .)", 0, j -> x.foreseen(1, j));
        bounds("foreseen(2, .)", 3, j -> x.foreseen(2, j));
        row("foreseen(2, .)", j -> x.foreseen(2, j), 1, 2, 1, 1);
        int[] none = {LOW, -1, 3, 4, HIGH};
        for (int i : none) {
            due.is("foreseen(" + i + ", 0)", x.foreseen(i, 0), NONE);
        }
    }

    static void promise20_asksOfACopyAndAKey() {
        AgreedInput x = due.with(TWO, "need a = 1;", "a = 2;", "b = 3;");
        bounds("nobody asks", NONE, i -> x.asks(0, 0, i));
        x.ticks(2);
        bounds("asks(0, 0, .)", 1, i -> x.asks(0, 0, i));
        bounds("asks(1, 1, .)", 0, i -> x.asks(1, 1, i));
        bounds("asks(1, 2, .)", NONE, i -> x.asks(1, 2, i));
        bounds("asks(0, ., 0)", 1, k -> x.asks(0, k, 0));
        bounds("asks(., 0, 0)", 1, c -> x.asks(c, 0, 0));
        row("asks(0, 0, .)", i -> x.asks(0, 0, i), 0, 3, NONE);
        due.is("asks(0, 1, 0)", x.asks(0, 1, 0), 5);
        x.ticks(1);
        row("0 is EXECUTED", i -> x.asks(0, 0, i), 3, NONE);
    }

    static void promise20_asksAtPlace39() {
        AgreedInput x = due.with("site s;key i s 0;key j s 0;copy m 4 first;epoch 20;link 0;", "i = 1;", "need at i = 0;", "need j = 0;");
        for (int n = 3; n < 24; n++) {
            x.put(0, n < 18 ? 1 : 2);
        }
        x.ticks(40);
        due.is("the ORDER is full", x.now(2), 40);
        due.is("the last one READS i", x.asks(0, 0, 15), 78);
        due.is("behind it nobody asks", x.asks(0, 0, 16), NONE);
        due.is("ready(0, 15)", x.ready(0, 15), 39);
        due.is("ready(0, 16)", x.ready(0, 16), NONE);
        due.is("how(0, 39)", x.how(0, 39), 0);
        due.is("waits(0, 39)", x.waits(0, 39), 0);
        due.is("entry(39, 5)", x.entry(39, 5), 1);
        due.is("foreseen(39, 0)", x.foreseen(39, 0), 1);
    }

    static void promise21_readyOfACopy() {
        AgreedInput x = due.with(TWO, "need a = 1;", "a = 2;", "b = 3;");
        bounds("nothing is in the ORDER", NONE, i -> x.ready(0, i));
        x.ticks(2);
        bounds("ready(0, .)", 1, i -> x.ready(0, i));
        bounds("ready(1, .)", 1, i -> x.ready(1, i));
        bounds("ready(., 0)", 1, c -> x.ready(c, 0));
        row("ready(0, .)", i -> x.ready(0, i), 0, 2, NONE);
        x.ticks(1);
        row("ready(0, .)", i -> x.ready(0, i), 1, 2, NONE);
        row("ready(1, .)", i -> x.ready(1, i), 1, NONE);
        x.ticks(2);
        bounds("all are EXECUTED", NONE, i -> x.ready(0, i));
    }

    static void promise21_whoIsGoingIsNotReady() {
        AgreedInput x = due.with(TWO, "a = c;");
        x.ticks(2);
        due.is("ready(0, 0)", x.ready(0, 0), 0);
        x.ticks(1);
        due.is("it is GOING", x.how(0, 0), 1);
        due.is("ready(0, 0)", x.ready(0, 0), NONE);
    }

    static void promise22_waitsOfACopyAndAnEntry() {
        AgreedInput x = due.with(TWO, "a = c;", "need b = 2;", "a = 2; b = 3;", "need a = 2;");
        x.ticks(2);
        bounds("waits(0, .)", 3, i -> x.waits(0, i));
        bounds("waits(1, .)", 3, i -> x.waits(1, i));
        bounds("waits(., 0)", 1, c -> x.waits(c, 0));
        row("waits(0, .)", i -> x.waits(0, i), 0, 0, 2, 2);
        x.ticks(1);
        row("0 is GOING, 1 is not EXECUTED", i -> x.waits(0, i), 0, 0, 2, 2);
        row("0 is GOING, 1 is EXECUTED", i -> x.waits(1, i), 0, 0, 1, 2);
        x.ticks(1);
        row("both are EXECUTED, 2 is GOING", i -> x.waits(1, i), 0, 0, 0, 1);
        due.is("how(1, 2)", x.how(1, 2), 1);
        x.ticks(1);
        row("all are EXECUTED", i -> x.waits(1, i), 0, 0, 0, 0);
        AgreedInput y = due.with(ONE, "a = 1;");
        bounds("waits() of an empty ORDER", NONE, i -> y.waits(0, i));
    }

    // ---- 23 to 30

    static void promise23_serialOfAKey() {
        AgreedInput x = due.with(TWO, "c = 7;");
        throwsBeyond("serial", 2, x::serial);
        x.ticks(2);
        row("serial", x::serial, 1, 2, 7);
        leaves("serial() that throws", y -> due.throwsNoSuch("serial(3)", () -> y.serial(3)));
        throwsBeyond("serial() without KEYS", NONE, due.with("site s;")::serial);
    }

    static void promise24_sameIs1Or0() {
        AgreedInput x = new AgreedInput();
        due.is("a new object", x.same(), 1);
        AgreedInput y = due.with(TWO, "a = 2;", "b = 3;");
        due.is("nothing in the ORDER", y.same(), 1);
        y.ticks(2);
        due.is("none EXECUTED", y.same(), 0);
        y.ticks(1);
        due.is("one of two in COPY 0", y.same(), 0);
        y.ticks(1);
        due.is("all", y.same(), 1);
        Due.submit(y, 0, "c = 3;");
        due.is("one more arrived", y.same(), 1);
    }

    static void promise25_chainOfNoneAndOne() {
        AgreedInput x = new AgreedInput();
        due.is("a new object", x.chain(), 0);
        AgreedInput y = due.with(ONE, "a = 1;");
        due.is("arrived", y.chain(), 0);
        y.ticks(1);
        due.is("one", y.chain(), 1);
        Due.submit(y, 0, "need a = 1;");
        Due.submit(y, 0, "need a = 1;");
        y.ticks(1);
        due.is("two", y.chain(), 2);
        y.crash(0);
        due.is("of the ORDER, however they are", y.chain(), 2);
    }

    static void promise26_leastOfNoneAndOne() {
        AgreedInput x = new AgreedInput();
        due.is("a new object", x.least(), 0);
        AgreedInput y = due.with(TWO, "a = 1;", "a = b;", "need c = 1;");
        due.is("arrived", y.least(), 0);
        y.ticks(2);
        due.is("least()", y.least(), 3);
        y.ticks(9);
        due.is("EXECUTED", y.least(), 3);
        due.is("over() is another thing", y.over(), 0);
    }

    /** 8 TRANS of which one goes and the others are asked anew, all sent over, and 4 more: 406 TICKS. */
    static void promise27_overIsNoneBehind400() {
        AgreedInput x = due.with("site s;site t;key i s 0;key j t 0;key k s 0;copy m 1 first;epoch 18;link 9;",
            "at k = 5; k = 1 - k; j = j;", "i = j;");
        for (int n = 1; n < 8; n++) {
            x.put(0, 0);
        }
        for (int n = 1; n < 4; n++) {
            x.put(0, 1);
        }
        int[] wanted = {NONE, NONE, NONE, NONE, NONE, NONE, 400, 399};
        for (int i = 0; i < wanted.length; i++) {
            due.is("over() at TICK " + i, x.over(), wanted[i]);
            due.is("all stays", x.now(0), i);
            x.ticks(1);
        }
        due.is("it is so", x.over(), 398);
        for (int i = 0; i < 6; i++) {
            x.ticks(60);
        }
        due.is("it is so", x.over(), 38);
        x.ticks(37);
        due.is("one more", x.over(), 1);
        x.ticks(1);
        due.is("now", x.over(), 0);
    }

    static void promise27_overIs0Now() {
        AgreedInput x = due.with(ONE);
        due.is("nothing is to be done", x.over(), 0);
        Due.submit(x, 0, "a = 1;");
        due.is("one", x.over(), 2);
        x.ticks(1);
        due.is("one", x.over(), 1);
        x.ticks(1);
        due.is("none", x.over(), 0);
        x.check();
        due.is("a CHECK that is on does not matter", x.over(), 0);
        leaves("over()", AgreedInput::over);
    }

    static void promise28_soEmptiesTheTapeAndTellsHowMany() {
        AgreedInput x = due.with(ONE, "a = 9;");
        x.ticks(1);
        due.is("so()", Due.so(x, 0, 9), 1);
        due.is("the tape", x.count(5), 0);
        due.is("so() of an empty tape", x.so(), NONE);
        due.is("not as told", Due.so(x, 0), NONE);
        due.is("the tape", x.count(5), 0);
        due.is("not as told", Due.so(x, 3, 1), NONE);
        due.is("the tape", x.count(5), 0);
        due.is("14 bytes", Due.so(x, 0, 9, 0, 9, 0, 9, 0, 9, 0, 9, 0, 9, 0, 9), NONE);
        due.is("12 bytes", Due.so(x, 0, 9, 0, 9, 0, 9, 0, 9, 0, 9, 0, 9), 1);
        due.is("11 bytes", Due.so(x, 0, 9, 0, 9, 0, 9, 0, 9, 0, 9, 0), NONE);
        due.is("without KEYS", Due.so(due.with("site s;"), 0, 0), NONE);
        due.is("fault() has nothing of it", x.fault(), 0);
    }

    static void promise29_soAtOfTheLatestThatWasNotNone() {
        AgreedInput x = due.with(ONE, "b = 9;", "a = 5;");
        bounds("ahead of any", NONE, x::soAt);
        due.is("not as told", Due.so(x, 7, 7), NONE);
        bounds("ahead of any but one of NONE", NONE, x::soAt);
        x.ticks(1);
        due.is("so()", Due.so(x, 0, 1), 2);
        bounds("soAt", 1, x::soAt);
        row("soAt", x::soAt, 0, 1, NONE);
        due.is("not as told", Due.so(x, 7, 7), NONE);
        row("it stays", x::soAt, 0, 1, NONE);
        due.is("none are so", Due.so(x, 0, 7), 0);
        bounds("none such", NONE, x::soAt);
        due.is("so()", Due.so(x, 0, 5), 1);
        row("soAt", x::soAt, 2, NONE);
        x.undo();
        Due.world(x, "");
        row("by what was so then", x::soAt, 2, NONE);
    }

    static void promise29_soAtOf41Numbers() {
        AgreedInput x = due.with("site s;key i s 0;key j s 0;key k s 7;copy m 4 first;epoch 1;link 0;", "i = 1 - i; at i = at i;");
        for (int n = 1; n < 24; n++) {
            x.put(0, 0);
        }
        x.ticks(60);
        x.ticks(60);
        due.is("the ORDER is full", x.now(2), 40);
        due.is("behind 0 to 40", Due.so(x, 2, 7), 41);
        bounds("soAt", 40, x::soAt);
        due.is("soAt(40)", x.soAt(40), 40);
        due.is("not as told leaves it", Due.so(x, 3, 7), NONE);
        due.is("soAt(40)", x.soAt(40), 40);
    }

    static void promise30_askOfTheLatestAbove0() {
        AgreedInput x = due.with(ONE, "b = 9;", "c = 9;");
        due.is("ahead of any", x.ask(), NONE);
        Due.so(x, 9, 9);
        due.is("behind NONE", x.ask(), NONE);
        Due.so(x, 0, 99);
        due.is("behind 0", x.ask(), NONE);
        x.ticks(1);
        // b 2 9 9, c 3 3 9
        Due.so(x, 0, 1);
        due.is("behind 3", x.ask(), 1);
        Due.so(x, 0, 99);
        due.is("behind 0 it stays", x.ask(), 1);
        Due.so(x, 9, 9);
        due.is("behind NONE it stays", x.ask(), 1);
        // behind 1, 2: c 3 9
        Due.so(x, 1, 9);
        due.is("behind 2", x.ask(), 2);
        Due.submit(x, 0, "c = 3;");
        x.ticks(2);
        due.is("by what was so then", x.ask(), 2);
        Due.world(x, "");
        due.is("in another WORLD, too", x.ask(), 2);
    }

    // ---- 31 to 34

    static void promise31_drawnTakes1To60() {
        AgreedInput x = due.with(ONE, "a = a + 1;");
        int[] wrong = {LOW, -1, 0, 61, 62, HIGH};
        for (int n : wrong) {
            due.is("drawn(" + n + ", 1)", x.drawn(n, 1), NONE);
            leaves("drawn(" + n + ", 1)", y -> y.drawn(n, 1));
        }
        due.is("now(0)", x.now(0), 0);
        due.is("drawn(1, LOW)", x.drawn(1, LOW), 1);
        due.is("drawn(60, HIGH)", x.drawn(60, HIGH), 60);
        due.is("now(0)", x.now(0), 61);
    }

    static void promise31_drawnEndsWith1000() {
        int[] ahead = {940, 941, 999, 1000};
        int[] went = {60, 59, 1, 0};
        for (int i = 0; i < ahead.length; i++) {
            AgreedInput x = due.with(ONE, "a = a + 1;");
            due.ticksTo(x, ahead[i]);
            due.is("drawn(60, 5) from " + ahead[i], x.drawn(60, 5), went[i]);
            due.is("now(0)", x.now(0), ahead[i] + went[i]);
        }
        AgreedInput y = due.with(ONE, "a = a + 1;");
        due.ticksTo(y, 1000);
        y.check();
        String look = Look.of(y);
        for (int seed = 0; seed < 20; seed++) {
            due.is("drawn(60, .)", y.drawn(60, seed), 0);
        }
        due.is("nothing is drawn then", Look.of(y), look);
    }

    static void promise31_drawnGoesOnAsItsPartsDo() {
        // the seed goes on from TICK to TICK: the same as all at once
        AgreedInput x = busy();
        AgreedInput y = busy();
        int seed = 77;
        x.drawn(1, seed);
        y.drawn(2, seed);
        x.undo();
        x.drawn(2, seed);
        due.is("the same calls give the same", Look.of(x), Look.of(y));
    }

    static void promise32_oddsTakes1To10() {
        AgreedInput x = due.with(TWO, "a = a + 1;");
        int[] wrong = {LOW, -1, 0, 11, 12, HIGH};
        for (int n : wrong) {
            due.is("odds(" + n + ", 1)", x.odds(n, 1), NONE);
        }
        leaves("odds()", y -> y.odds(10, 5));
        leaves("odds() of NONE", y -> y.odds(11, 5));
        int[] seeds = {0, HIGH, LOW, HIGH - 4};
        for (int seed : seeds) {
            int sum = 0;
            for (int i = 0; i < 10; i++) {
                int one = x.odds(1, seed + i);
                due.is("odds(1, .) is 0 or 1", one == 0 || one == 1, true);
                sum += one;
                due.is("odds(" + (i + 1) + ", " + seed + ")", x.odds(i + 1, seed), sum);
            }
        }
    }

    static void promise32_oddsAre30TicksFromNowOn() {
        for (int seed = 1; seed < 30; seed++) {
            AgreedInput x = due.with(TWO, "a = a + 1;", "b = a;");
            int odds = x.odds(1, seed);
            x.drawn(30, seed);
            due.is("odds(1, " + seed + ")", odds, x.same());
        }
        // one TICK is left
        AgreedInput y = due.with(ONE);
        due.ticksTo(y, 998);
        Due.submit(y, 0, "a = 5;");
        y.ticks(1);
        int sum = 0;
        for (int seed = 0; seed < 10; seed++) {
            y.drawn(30, seed);
            due.is("TICK 1000", y.now(0), 1000);
            sum += y.same();
            y.undo();
        }
        due.is("odds(10, 0)", y.odds(10, 0), sum);
        y.ticks(1);
        due.is("none is left, all are as now", y.odds(10, 0), 10);
        AgreedInput z = due.with(ONE);
        due.ticksTo(z, 999);
        Due.submit(z, 0, "a = 5;");
        z.ticks(1);
        due.is("none is left, all are as now", z.odds(10, 0), 0);
    }

    static void promise33_bookLives0Or1() {
        int[] others = {LOW, -2, -1, 2, 3, HIGH};
        for (int lives : others) {
            leaves("book(" + lives + ")", y -> due.is("book(" + lives + ")", y.book(lives), -1000));
        }
        AgreedInput x = due.with(ONE);
        Due.tape(x, "tick 3;");
        due.is("book(2)", x.book(2), -1000);
        due.is("the tape stays", x.count(5), 7);
        due.is("book(0)", x.book(0), NONE);
        due.is("all stays as it is", x.now(0), 0);
        due.is("the tape is empty", x.count(5), 0);
        due.is("book(1)", Due.book(x, 1, "tick 3;"), NONE);
        due.is("it is lived", x.now(0), 3);
    }

    static void promise33_bookAnswersTheLineThatIsWrong() {
        AgreedInput x = due.with(ONE, "a = 5;");
        due.is("the first", Due.book(x, 1, "put s 1;tick 1;"), 0);
        due.is("nothing is lived", x.now(0), 0);
        due.is("nothing can be undone of it", x.undo(), 0);
        Due.submit(x, 0, "a = 5;");
        due.is("the second", Due.book(x, 1, "tick 1;put s 1;tick 1;"), 1);
        due.is("as far as it is not WRONG", x.now(0), 1);
        String forty = "tick 1;".repeat(39);
        due.is("the last of 40", Due.book(x, 0, forty + "put s 1;"), 39);
        due.is("none of 40", Due.book(x, 0, forty + "put s 0;"), NONE);
        due.is("an empty BOOK", Due.book(x, 1, ""), NONE);
        due.is("a FAULT at 0", Due.book(x, 1, ";"), -2);
        due.is("a FAULT at 7", Due.book(x, 1, "tick 1;;"), -9);
        due.is("the tape is empty", x.count(5), 0);
        due.is("with a FAULT nothing is lived", x.now(0), 1);
    }

    static void promise33_bookThatIsJudgedLeavesAll() {
        AgreedInput x = busy();
        due.is("book(0)", Due.book(x, 0, "tick 60;check;crash m;put t 2;tick 9;crash n;check;"), NONE);
        AgreedInput y = busy();
        due.is("book(0)", Due.book(y, 0, "tick 60;check;crash m;put t 2;tick 9;crash n;check;"), NONE);
        due.is("undo()", x.undo(), y.undo());
        due.is("now(0)", x.now(0), 3);
        due.is("now(1)", x.now(1), 2);
        AgreedInput z = busy();
        Due.book(z, 0, "tick 60;check;crash m;put t 2;tick 9;crash n;check;");
        z.undo();
        AgreedInput w = busy();
        w.undo();
        due.is("all stays", soFar(z), soFar(w));
    }

    static void promise34_toldOf0To3() {
        AgreedInput x = due.with(ONE);
        bounds("ahead of any", NONE, x::told);
        Due.book(x, 0, "tick");
        bounds("behind one with a FAULT", NONE, x::told);
        Due.book(x, 2, "tick 1;");
        bounds("behind one of -1000", NONE, x::told);
        Due.book(x, 0, "");
        row("behind an empty one", x::told, 0, 0, 0, 0);
        Due.book(x, 0, "tick 1;tick 2;");
        bounds("told", 3, x::told);
        row("told", x::told, 0, 2, 3, 0);
        Due.book(x, 0, "tick 1");
        row("a FAULT leaves it", x::told, 0, 2, 3, 0);
        Due.book(x, -1, "tick 1;");
        row("-1000 leaves it", x::told, 0, 2, 3, 0);
        x.undo();
        Due.world(x, "");
        row("a new WORLD leaves it", x::told, 0, 2, 3, 0);
    }

    private static void tells(AgreedInput x, String book, int... wanted) {
        due.is("book(0) of " + book, Due.book(x, 0, book), wanted[0] == 0 ? NONE : wanted[1]);
        row("told() of " + book, x::told, wanted);
    }

    static void promise34_toldWhyPuttingWasWrong() {
        AgreedInput x = due.with("site s;key a s 1;epoch 1;", "a = 2;");
        tells(x, "put s 0;", 0, 1, 0, 0);
        tells(x, "put s 1;", 9, 0, 0, 0);
        tells(x, "put s 0;put s 1;put s 2;", 0, 3, 0, 0);
        tells(x, "put s 0;put s 2;", 9, 1, 0, 0);
        tells(x, "tick 1;put s 0;put s 3;", 9, 2, 1, 1);
        String more = "put s 0;".repeat(23);
        tells(x, more, 0, 23, 0, 0);
        tells(x, more + "put s 0;", 1, 23, 0, 0);
        tells(x, more + "tick 1;put s 23;", 1, 24, 1, 24);
        tells(x, "put s 0;".repeat(22) + "put s 22;put s 23;", 1, 23, 0, 0);
        tells(x, "put s 0;".repeat(22) + "put s 23;", 9, 22, 0, 0);
        due.is("all stays", x.now(1), 1);
    }

    static void promise34_toldWhyCheckingAndCrashingWereWrong() {
        AgreedInput x = due.with("site s;key a s 1;key b s 2;epoch 3;", "a = 2;");
        tells(x, "check;", 0, 1, 0, 0);
        tells(x, "check;check;", 11, 1, 0, 0);
        tells(x, "check;tick 1;check;", 11, 2, 1, 0);
        tells(x, "check;tick 2;check;", 0, 3, 2, 0);
        Due.world(x, "site s;key a s 1;copy m 1 first;epoch 3;");
        Due.submit(x, 0, "a = 2;");
        tells(x, "crash m;", 21, 0, 0, 0);
        tells(x, "tick 2;crash m;", 21, 1, 2, 0);
        tells(x, "tick 3;crash m;", 0, 2, 3, 1);
        AgreedInput without = due.with("copy m 1 first;");
        tells(without, "check;check;tick 1;check;", 0, 4, 1, 0);
    }

    static void promise34_toldThatFewerTicksAreLeft() {
        AgreedInput x = due.with(ONE, "a = 2;");
        String to960 = "tick 60;".repeat(16);
        tells(x, to960 + "tick 40;", 0, 17, 1000, 1);
        tells(x, to960 + "tick 41;", 31, 16, 960, 1);
        tells(x, to960 + "tick 39;tick 1;", 0, 18, 1000, 1);
        tells(x, to960 + "tick 40;tick 1;", 31, 17, 1000, 1);
        tells(x, to960 + "tick 40;check;put s 0;crash m;", 0, 20, 1000, 1);
        due.is("lived", Due.book(x, 1, to960 + "tick 41;tick 1;"), 16);
        due.is("as far as it is not WRONG", x.now(0), 960);
        due.is("lived", Due.book(x, 1, "tick 40;"), NONE);
        due.is("now(0)", x.now(0), 1000);
        due.is("none is left", Due.book(x, 1, "tick 1;"), 0);
        due.is("told(0)", x.told(0), 31);
    }

    // ---- 35 to 39

    static void promise35_sentenceAnswersOnesOrBelow0() {
        AgreedInput x = busy();
        due.is("one", Due.sentence(x, "done"), 1);
        due.is("the tape is empty", x.count(5), 0);
        due.is("not, bracket and other one", Due.sentence(x, "not(done)"), 3);
        due.is("20", Due.sentence(x, "not done or ".repeat(9) + "not wide"), 20);
        due.is("a FAULT at 0", Due.sentence(x, ""), -1);
        due.is("a FAULT at 4", Due.sentence(x, "done)"), -5);
        due.is("the tape is empty", x.count(5), 0);
        due.is("a FAULT at 200", Due.sentence(x, "done" + " ".repeat(197)), -201);
    }

    static void promise35_sentenceWithAFaultLeavesTheOneThatWas() {
        String[] wrong = {"", "done or", "not", "(done", "done)", "reads d", "from u", "place = 1000", "wide or ".repeat(20) + "wide"};
        for (String text : wrong) {
            AgreedInput x = busy();
            due.is("sentence() of " + text, Due.sentence(x, text) < 0, true);
            due.is("it stays behind " + text, Look.through(x), Look.through(busy()));
            AgreedInput y = due.with(TWO);
            Due.sentence(y, text);
            due.is("there is none still", y.said(NONE), NONE);
        }
    }

    static void promise36_saidOfNoneAndTheKth() {
        AgreedInput x = due.with(ONE, "a = 1;", "b = 2;", "need a = 9;");
        int[] all = {LOW, -2, -1, 0, 1, HIGH};
        for (int k : all) {
            due.is("said(" + k + ") without a SENTENCE", x.said(k), NONE);
        }
        Due.sentence(x, "place = 1 or waiting");
        due.is("an empty ORDER", x.said(NONE), 0);
        due.is("an empty ORDER", x.said(0), NONE);
        x.ticks(3);
        // 0 and 1 are DONE, 2 is WAITING
        due.is("how many", x.said(NONE), 2);
        row("said", x::said, 1, 2, NONE, NONE);
        int[] none = {LOW, -3, -2, 2, 3, HIGH};
        for (int k : none) {
            due.is("said(" + k + ")", x.said(k), NONE);
        }
        Due.sentence(x, "going");
        due.is("of none", x.said(NONE), 0);
        due.is("of none", x.said(0), NONE);
        Due.sentence(x, "not going");
        row("of all", x::said, 0, 1, 2, NONE);
    }

    static void promise36_saidOfNumbersOnBothSides() {
        AgreedInput x = due.with("site s;site t;key i s 1;key j s 2;key k s 3;copy m 1 first;epoch 4;", "i = 2;", "j = 0;", "k = 0;");
        Due.submit(x, 1, "at i = 7;");
        x.ticks(4);
        due.says(x, "place < 1", 0);
        due.says(x, "place < 0");
        due.says(x, "place = 0", 0);
        due.says(x, "place > 0", 1, 2, 3);
        due.says(x, "place = 3", 3);
        due.says(x, "place > 3");
        due.says(x, "place < 999", 0, 1, 2, 3);
        due.says(x, "trans < 1", 0);
        due.says(x, "trans > 2", 3);
        due.says(x, "trans = 3", 3);
        due.says(x, "trans = 4");
        due.says(x, "tries = 1", 0, 1, 2, 3);
        due.says(x, "tries > 1");
        x.ticks(4);
        // the ENTRY that arrived anew counts, and came into the ORDER in that TICK
        due.says(x, "tries > 1", 3, 4);
        due.says(x, "tries = 2 and retried", 3);
        due.says(x, "trans = 3", 3, 4);
        due.says(x, "from t", 3, 4);
        due.says(x, "from s", 0, 1, 2);
    }

    static void promise36_saidOfAllAndOr() {
        AgreedInput x = due.with(ONE, "a = 1;", "b = a;", "c = 1;", "need c = 1;");
        x.ticks(1);
        // READY: 0 and 2
        due.says(x, "ready", 0, 2);
        due.says(x, "reads a", 1);
        due.says(x, "writes c", 2);
        due.says(x, "reads c", 3);
        due.says(x, "ready and writes c or reads a", 1, 2);
        due.says(x, "reads a or ready and writes c", 1, 2);
        due.says(x, "(reads a or ready) and writes c", 2);
        due.says(x, "not ready and reads a", 1);
        due.says(x, "not (ready and reads a)", 0, 1, 2, 3);
        due.says(x, "not not ready", 0, 2);
        due.says(x, "not ready or writes a and ready", 0, 1, 3);
        x.ticks(1);
        due.says(x, "ready", 1, 2);
        due.says(x, "done", 0);
    }

    static void promise36_saidOfWhatIsWithinOneAnother() {
        // of 1 alone: reads a; of 2: writes c; of 3: reads c; of 0 and 2: ready
        AgreedInput x = due.with(ONE, "a = 1;", "b = a;", "c = 1;", "need c = 1;");
        x.ticks(1);
        due.says(x, "reads a or (writes c or (ready and going))", 1, 2);
        due.says(x, "reads a or (going or (ready and writes c))", 1, 2);
        due.says(x, "reads a or (writes c or (going and ready))", 1, 2);
        due.says(x, "ready or (reads a or (reads c or (going and done)))", 0, 1, 2, 3);
        due.says(x, "reads a or (going and (going or going and waiting))", 1);
        due.says(x, "waiting and (ready or (reads a and (going or going)))", 0, 2);
        due.says(x, "waiting and (waiting and (waiting and (waiting or going) or going) and reads c)", 3);
        due.says(x, "not (waiting and (ready or (reads a and (going or not done))))", 3);
        due.says(x, "not (going or (going or not (waiting and writes c)))", 2);
        due.says(x, "((reads a)) or (not ((ready or reads a) or going))", 1, 3);
    }

    static void promise36_saidOfCopy0Alone() {
        AgreedInput x = due.with(ONE + "copy n 4 first;", "a = 1;", "b = 1;", "need c = 9;");
        x.ticks(2);
        due.says(x, "done", 0);
        due.says(x, "stopped");
        due.says(x, "ready", 1, 2);
        due.says(x, "waiting", 1, 2);
        x.crash(0);
        due.says(x, "done");
        x.ticks(3);
        due.says(x, "stopped", 2);
    }

    static void promise37_imageOf0And1() {
        AgreedInput x = due.with(ONE);
        int[] none = {LOW, -2, -1, 2, 3, HIGH};
        for (int k : none) {
            due.is("image(" + k + ")", x.image(k), false);
            due.is("nothing is kept", x.restore(0), false);
            due.is("nothing is kept", x.restore(1), false);
            leaves("image(" + k + ")", y -> y.image(k));
        }
        due.is("image(0)", x.image(0), true);
        due.is("restore(1)", x.restore(1), false);
        due.is("restore(0)", x.restore(0), true);
        due.is("image(1)", x.image(1), true);
        due.is("restore(1)", x.restore(1), true);
    }

    static void promise37_imageKeepsAllThatIsSo() {
        AgreedInput x = busy();
        String ahead = soFar(x);
        int said = x.said(NONE);
        x.image(0);
        due.is("nothing changes", soFar(x), ahead);
        due.is("acts can be undone still", x.undo(), 4);
        Due.world(x, "site q;key r q 5;epoch 3;");
        Due.submit(x, 0, "r = r + 1;");
        Due.sentence(x, "writes r");
        x.ticks(9);
        due.is("restore(0)", x.restore(0), true);
        due.is("all is as kept", soFar(x), ahead);
        due.is("the SENTENCE", x.said(NONE), said);
        // a place is taken anew
        x.ticks(5);
        x.image(0);
        x.ticks(5);
        x.restore(0);
        due.is("the latest one", x.now(0), 8);
    }

    static void promise37_imageWithoutASentence() {
        AgreedInput x = due.with(ONE, "a = 1;");
        x.ticks(1);
        x.image(0);
        Due.sentence(x, "waiting");
        due.is("said(NONE)", x.said(NONE), 1);
        x.image(1);
        x.restore(0);
        due.is("there was none", x.said(NONE), NONE);
        x.restore(1);
        due.is("there was one", x.said(NONE), 1);
    }

    static void promise38_restoreOf0And1() {
        AgreedInput x = due.with(ONE, "a = 9;");
        int[] none = {LOW, -2, -1, 0, 1, 2, HIGH};
        for (int k : none) {
            due.is("restore(" + k + ")", x.restore(k), false);
        }
        due.is("what can be undone stays", x.undo(), 0);
        int[] others = {LOW, -1, 0, 2, 3, HIGH};
        for (int k : others) {
            leaves("restore(" + k + ")", y -> due.is("restore(" + k + ")", y.restore(k), false));
        }
    }

    static void promise38_restoreLeavesTheTapeAndWhatWasTold() {
        AgreedInput x = due.with(ONE, "a = 9;");
        x.image(0);
        x.ticks(1);
        Due.so(x, 0, 1);
        Due.book(x, 0, "tick 1;check;check;");
        Due.sentence(x, "reads d");
        Due.tape(x, "tick 7;");
        x.ticks(3);
        due.is("restore(0)", x.restore(0), true);
        due.is("the tape", x.count(5), 7);
        due.is("fault()", x.fault(), 3);
        row("told", x::told, 11, 2, 2, 1);
        row("soAt", x::soAt, 0, NONE);
        due.is("ask()", x.ask(), 0);
        due.is("nothing can be undone", x.undo(), NONE);
        due.is("now(0)", x.now(0), 0);
        due.is("the tape's bytes", x.book(1), NONE);
        due.is("now(0)", x.now(0), 7);
        due.is("undo() of what was done since", x.undo(), 0);
        due.is("now(0)", x.now(0), 0);
        due.is("once more", x.restore(0), true);
        due.is("now(3)", x.now(3), 1);
    }

    static void promise39_countOf0To5() {
        AgreedInput x = busy();
        row("count", x::count, 2, 3, 2, 2, 1, 7);
        bounds("count", 5, x::count);
        AgreedInput y = new AgreedInput();
        row("count", y::count, 0, 0, 1, 5, 2, 0);
        y.feed(0, 0, 0, 0, 0);
        due.is("count(5)", y.count(5), 20);
        for (int i = 0; i < 46; i++) {
            y.feed(0, 0, 0, 0, 0);
        }
        due.is("count(5)", y.count(5), 940);
    }

    public static void main(String[] args) {
        Cases.run(EdgesOfPromisesTest.class, due);
        Cases.hasAllPromises(EdgesOfPromisesTest.class, due, 39);
        due.finish();
    }
}
