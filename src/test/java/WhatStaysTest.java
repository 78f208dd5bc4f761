import java.util.function.Consumer;

/** That what is undone, kept, judged or refused leaves nothing behind, and that what is brought back goes on as it was. */
public final class WhatStaysTest {
    private static final int NONE = -1;
    private static final Due due = new Due("WhatStaysTest");
    private static final String FIRST = "site p;site q;site r;key i p 3;key j q 20;key k r 30;key l p 40;key m q 50;"
        + "copy ca 1 first;copy cb 1 last;copy cc 4 first;epoch 2;link 3;";
    private static final String SECOND = "site u;site v;key x v 1;key y u 2;key z u 7;copy w 3 last;copy ww 1 first;epoch 3;link 1;";

    /** A CHECKPOINT, a CHECK that is on with TWINS, ENTRIES of each sort, some that arrived, FORESEEN ones, a SENTENCE. */
    private static void tellFirst(AgreedInput x) {
        Due.world(x, FIRST);
        Due.submit(x, 0, "i = at i - 36;");
        Due.submit(x, 1, "at i = 7;");
        Due.submit(x, 2, "need k = 0; k = 1;");
        Due.submit(x, 1, "j = k + 1;");
        x.ticks(11);
        x.check();
        x.ticks(5);
        Due.submit(x, 2, "at i = at i + 1; l = 9;");
        x.put(0, 3);
        x.put(1, 2);
        x.ticks(2);
        x.check();
        Due.submit(x, 1, "m = 3;");
        Due.submit(x, 1, "need l = 9; l = l + j - m; i = 2;");
        x.put(2, 0);
        x.ticks(7);
        x.put(2, 1);
        x.put(0, 4);
        x.crash(2);
        x.put(1, 3);
        Due.sentence(x, "not(waiting or retried) and tries < 2 or reads k and from q");
    }

    private static void tellSecond(AgreedInput x) {
        Due.world(x, SECOND);
        Due.submit(x, 1, "y = z - 1 + x; at x = 5;");
        Due.submit(x, 0, "need at y < z; z = 0;");
        x.put(0, 0);
        x.ticks(4);
        x.check();
        x.put(1, 1);
        x.ticks(4);
        x.crash(1);
        x.put(0, 1);
        x.put(1, 0);
        x.ticks(1);
        x.check();
        x.put(1, 2);
        x.ticks(2);
        Due.sentence(x, "wide or writes y");
    }

    private static AgreedInput first() {
        AgreedInput x = new AgreedInput();
        tellFirst(x);
        return x;
    }

    private static AgreedInput second() {
        AgreedInput x = new AgreedInput();
        tellSecond(x);
        return x;
    }

    private static void going(AgreedInput x) {
        x.ticks(3);
        x.crash(0);
        x.ticks(2);
        x.check();
        x.put(0, 1);
        x.drawn(5, 99);
    }

    /** That two objects are alike, now and when they go on; each part is looked at in new ones, which have calls left. */
    private static void alike(String name, Consumer<AgreedInput> one, Consumer<AgreedInput> other) {
        for (int part = 0; part < Look.PARTS; part++) {
            due.is(name, partOf(one, part), partOf(other, part));
            due.is(name + ", going on", partOf(one.andThen(WhatStaysTest::going), part),
                partOf(other.andThen(WhatStaysTest::going), part));
        }
    }

    /** A part of what is so, not what was told last. */
    private static String partOf(Consumer<AgreedInput> made, int part) {
        AgreedInput x = new AgreedInput();
        made.accept(x);
        String look = Look.part(x, part);
        int told = look.indexOf("soAt");
        return told < 0 ? look : look.substring(0, told) + look.substring(look.indexOf("said"));
    }

    private static String hows(AgreedInput x, int c) {
        StringBuilder text = new StringBuilder();
        for (int i = 0; i < x.now(2); i++) {
            text.append(x.how(c, i));
        }
        return text.toString();
    }

    // ---- the two themselves

    static void part2_muchIsSoInBoth() {
        AgreedInput x = first();
        int[] now = {25, 13, 11, 3, 1, 8, 7, 16, 5};
        for (int what = 0; what < now.length; what++) {
            due.is("now(" + what + ")", x.now(what), now[what]);
        }
        due.is("COPY 0", hows(x, 0), "23242242210");
        due.is("COPY 1", hows(x, 1), "23242242210");
        due.is("COPY 2, that CRASHED", hows(x, 2), "23242000000");
        due.is("said(NONE)", x.said(NONE), 8);
        AgreedInput y = second();
        int[] other = {11, 7, 6, 1, 1, 6, 0, 0, 3};
        for (int what = 0; what < other.length; what++) {
            due.is("now(" + what + ")", y.now(what), other[what]);
        }
        due.is("COPY 0", hows(y, 0), "422441");
        due.is("COPY 1, that CRASHED", hows(y, 1), "421000");
    }

    static void part3_whatIsOnlyAskedLeavesAll() {
        alike("all was asked", x -> {
            tellSecond(x);
            Look.of(x);
            x.odds(4, 7);
            due.is("no FAULT", x.fault(), 0);
        }, WhatStaysTest::tellSecond);
        AgreedInput x = second();
        AgreedInput y = second();
        Look.of(x);
        due.is("what can be undone, too", Look.through(x), Look.through(y));
    }

    // ---- a new WORLD, images

    static void part3_aNewWorldHasNothingOfTheOneAhead() {
        alike("the second behind the first", x -> {
            tellFirst(x);
            tellSecond(x);
        }, WhatStaysTest::tellSecond);
        alike("the first behind the second", x -> {
            tellSecond(x);
            tellFirst(x);
        }, WhatStaysTest::tellFirst);
    }

    static void part3_aNewWorldHasNoCheckpoint() {
        AgreedInput x = first();
        due.is("POINT of the CHECKPOINT", x.now(8), 5);
        Due.world(x, FIRST);
        Due.submit(x, 0, "i = 9;");
        x.ticks(4);
        due.is("how(0, 0)", x.how(0, 0), 2);
        for (int c = 0; c < 3; c++) {
            due.is("crash()", x.crash(c), 0);
            due.is("it waits anew in COPY " + c, x.how(c, 0), 0);
            due.is("value(" + c + ", 0)", x.value(c, 0), 3);
            due.is("value(" + c + ", 4)", x.value(c, 4), 50);
        }
    }

    static void promise38_restoreBringsAllBack() {
        alike("the first, restored behind the second", x -> {
            tellFirst(x);
            x.image(0);
            tellSecond(x);
            x.image(1);
            x.restore(0);
        }, WhatStaysTest::tellFirst);
        alike("the second, restored behind the first", x -> {
            tellSecond(x);
            x.image(1);
            tellFirst(x);
            x.image(0);
            x.ticks(60);
            x.restore(1);
        }, WhatStaysTest::tellSecond);
        alike("one place taken twice", x -> {
            tellFirst(x);
            x.image(1);
            tellSecond(x);
            x.image(1);
            tellFirst(x);
            x.restore(1);
        }, WhatStaysTest::tellSecond);
        alike("what is done behind an image does not come into it", x -> {
            tellFirst(x);
            x.image(0);
            going(x);
            Due.sentence(x, "done");
            x.restore(0);
        }, WhatStaysTest::tellFirst);
    }

    static void promise37_imageIsTakenAnewFromARestoredOne() {
        alike("two and back", x -> {
            tellFirst(x);
            x.image(0);
            tellSecond(x);
            x.restore(0);
            x.image(1);
            tellSecond(x);
            x.image(0);
            x.restore(1);
        }, WhatStaysTest::tellFirst);
    }

    // ---- acts undone

    private static void undoneLeavesAll(String name, int acts, Consumer<AgreedInput> act) {
        alike(name + " is undone", x -> {
            tellFirst(x);
            act.accept(x);
            for (int i = 0; i < acts; i++) {
                due.is("undo() of " + name, x.undo(), 7 - i);
            }
        }, WhatStaysTest::tellFirst);
    }

    static void promise11_undoBringsAllBack() {
        undoneLeavesAll("submit()", 1, x -> Due.submit(x, 2, "at m = 1; need at i < 3; i = l - 4 + at j;"));
        undoneLeavesAll("put()", 1, x -> x.put(2, 4));
        undoneLeavesAll("crash(0)", 1, x -> x.crash(0));
        undoneLeavesAll("crash(1)", 1, x -> x.crash(1));
        undoneLeavesAll("ticks(60)", 1, x -> x.ticks(60));
        undoneLeavesAll("drawn(60, .)", 1, x -> x.drawn(60, 7));
        undoneLeavesAll("a BOOK", 1, x -> Due.book(x, 1, "crash ca;check;put r 5;tick 9;crash cb;tick 1;put p 23;"));
        undoneLeavesAll("all of these", 8, x -> {
            x.crash(0);
            x.check();
            Due.submit(x, 0, "m = at l;");
            x.put(2, 4);
            x.ticks(9);
            x.crash(1);
            Due.book(x, 1, "tick 2;put q 1;");
            x.drawn(9, -5);
        });
    }

    static void promise11_undoOfWhatIsUndoneAndDoneAnew() {
        alike("another TRANS at the place of one that was undone", x -> {
            tellFirst(x);
            Due.submit(x, 2, "need at m = at k; need l > m; i = 1 + 2 - 3 + 4; at j = at l;");
            x.ticks(4);
            x.undo();
            x.undo();
            Due.submit(x, 1, "i = 5; at i = m;");
        }, x -> {
            tellFirst(x);
            Due.submit(x, 1, "i = 5; at i = m;");
        });
        alike("more than eight acts, eight of them undone", x -> {
            tellFirst(x);
            x.ticks(2);
            x.put(1, 1);
            for (int i = 0; i < 8; i++) {
                x.ticks(i + 1);
            }
            for (int i = 0; i < 8; i++) {
                x.undo();
            }
        }, x -> {
            tellFirst(x);
            x.ticks(2);
            x.put(1, 1);
        });
    }

    // ---- a CHECK that is on

    /** KEYS a, b are TAKEN, a is written in the next TICK once more, c for the first time. */
    private static AgreedInput taking() {
        AgreedInput x = due.with("site s;key a s 1;key b s 2;key c s 3;copy m 1 first;epoch 1;link 0;", "a = 5;");
        x.ticks(2);
        x.check();
        x.ticks(1);
        Due.submit(x, 0, "a = 9; c = 8;");
        x.ticks(1);
        due.is("TAKEN", x.now(6), 3);
        return x;
    }

    private static void taken(String name, AgreedInput x) {
        due.is(name + ": it is over", x.now(4), 0);
        due.is(name + ": POINT", x.now(8), 1);
        int[] checkpoint = {5, 2, 3};
        int[] values = {9, 2, 8};
        for (int k = 0; k < 3; k++) {
            due.is(name + ": key(" + k + ", 2)", x.key(k, 2), checkpoint[k]);
            due.is(name + ": value(0, " + k + ")", x.value(0, k), values[k]);
        }
    }

    static void promise38_whatACheckHasTakenIsBroughtBack() {
        AgreedInput x = taking();
        x.ticks(1);
        taken("by ticks()", x);
        x.undo();
        due.is("TAKEN", x.now(6), 3);
        x.ticks(1);
        taken("undone, and ticks() again", x);
        x.undo();
        x.drawn(1, 5);
        x.undo();
        Due.book(x, 1, "tick 1;");
        taken("by a BOOK", x);
        x.undo();
        x.image(1);
        Due.world(x, "site s;key a s 7;key b s 7;key c s 7;epoch 1;");
        x.check();
        x.ticks(3);
        x.restore(1);
        x.ticks(1);
        taken("restored", x);
    }

    static void part3_copiesOfANewWorldWait() {
        String world = "site s;key a s 1;copy m 1 first;copy n 1 first;copy o 1 last;epoch 1;link 0;";
        AgreedInput x = due.with(world, "a = 2;");
        x.ticks(2);
        due.is("same()", x.same(), 1);
        Due.world(x, world);
        Due.submit(x, 0, "a = 3;");
        x.ticks(1);
        for (int c = 0; c < 3; c++) {
            due.is("how(" + c + ", 0)", x.how(c, 0), 0);
            due.is("ready(" + c + ", 0)", x.ready(c, 0), 0);
            due.is("value(" + c + ", 0)", x.value(c, 0), 1);
        }
        x.ticks(1);
        x.undo();
        x.undo();
        x.undo();
        Due.submit(x, 0, "need a = 7;");
        x.ticks(1);
        for (int c = 0; c < 3; c++) {
            due.is("how(" + c + ", 0) behind undo()", x.how(c, 0), 0);
        }
    }

    // ---- a TRANS that was refused

    private static AgreedInput refusedThen(String refused, String text) {
        AgreedInput x = due.with("site s;key a s 1;key b s 2;key c s 5;epoch 1;link 0;");
        due.is("submit() of " + refused, Due.submit(x, 0, refused) < 0, true);
        due.is("submit() of " + text, Due.submit(x, 0, text), 0);
        return x;
    }

    private static void refusedLeaves(String refused, String text, int ats, int how, int a) {
        AgreedInput x = refusedThen(refused, text);
        String call = text + " behind " + refused + ": ";
        due.is(call + "'at'", x.trans(0, 4), ats);
        x.ticks(2);
        due.is(call + "how it went", x.how(0, 0), how);
        due.is(call + "value(0, 0)", x.value(0, 0), a);
        AgreedInput y = due.with("site s;key a s 1;key b s 2;key c s 5;epoch 1;link 0;", text);
        y.ticks(2);
        due.is(call + "as without it", Look.of(x), Look.of(y));
    }

    static void promise06_aRefusedTransLeavesNothingForTheNext() {
        refusedLeaves("at a=at a+at a-at a;at", "at b=at b+at b-at a;", 4, 2, 1);
        refusedLeaves("at a=at a+at a-at a;d", "a=at c;", 1, 2, 5);
        refusedLeaves("need a<1;need b<1;need", "a=7;need a=7;", 0, 2, 7);
        refusedLeaves("a=1-2+3+4;need d", "need a=1;a=c;", 0, 2, 5);
        refusedLeaves("a=1-2+3+4+", "a=9;", 0, 2, 9);
        refusedLeaves("a=1;a=2;a=3;a=4;a=5;a=6;a=7;", "a=8;", 0, 2, 8);
        refusedLeaves("need a=9;need a=9;#", "need a=1;", 0, 2, 1);
        refusedLeaves("need a=1;need a=1;#", "need a=9;a=4;", 0, 4, 1);
    }

    static void promise11_anUndoneTransLeavesNothingForTheNext() {
        String world = "site s;key a s 1;key b s 2;key c s 5;epoch 1;link 0;";
        String[] undone = {"a=b+c+at b-at c;b=at a+at c;", "need at b<9;need at c>0;", "a=1-b;a=1-c;"};
        String[] texts = {"a=1;", "b=a;", "need a=1;", "need at a>0;a=9;", "a=b-c;", "at a=3;need a=1;"};
        for (String first : undone) {
            for (String text : texts) {
                AgreedInput x = due.with(world, first);
                due.is("undo()", x.undo(), 0);
                AgreedInput y = due.with(world);
                for (AgreedInput one : new AgreedInput[] {x, y}) {
                    due.is("submit() of " + text, Due.submit(one, 0, text), 0);
                    one.ticks(3);
                }
                due.is(text + " behind " + first + ", undone", Look.of(x), Look.of(y));
            }
        }
    }

    // ---- a BOOK

    private static void booked(Consumer<AgreedInput> told, String text, int wrong, Consumer<AgreedInput> calls) {
        alike("lived: " + text, x -> {
            told.accept(x);
            due.is("book(1) of " + text, Due.book(x, 1, text), wrong);
        }, x -> {
            told.accept(x);
            calls.accept(x);
        });
        alike("judged: " + text, x -> {
            told.accept(x);
            due.is("book(0) of " + text, Due.book(x, 0, text), wrong);
        }, told);
    }

    static void promise33_aBookIsLivedAsItsCallsAre() {
        booked(WhatStaysTest::tellFirst, "", NONE, x -> due.is("TICK", x.now(0), 25));
        booked(WhatStaysTest::tellFirst, "tick 60;", NONE, x -> x.ticks(60));
        booked(WhatStaysTest::tellFirst, "put q 5;", NONE, x -> x.put(1, 5));
        booked(WhatStaysTest::tellFirst, "crash ca;", NONE, x -> x.crash(0));
        booked(WhatStaysTest::tellFirst, "crash cb;", NONE, x -> x.crash(1));
        booked(WhatStaysTest::tellFirst, "crash cc;", NONE, x -> x.crash(2));
        booked(WhatStaysTest::tellFirst, "tick 40;check;", NONE, x -> {
            x.ticks(40);
            x.check();
        });
        booked(WhatStaysTest::tellFirst, "check;tick 1;", 0, x -> due.is("TICK", x.now(0), 25));
        booked(WhatStaysTest::tellFirst, "crash ca;put q 1;tick 7;check;put r 4;put p 14;tick 20;crash cb;tick 2;put q 15;", NONE, x -> {
            x.crash(0);
            x.put(1, 1);
            x.ticks(7);
            x.check();
            x.put(2, 4);
            x.put(0, 14);
            x.ticks(20);
            x.crash(1);
            x.ticks(2);
            x.put(1, 15);
        });
    }

    static void promise33_aBookOfTheSecondWorld() {
        booked(WhatStaysTest::tellSecond, "put v 0;put u 6;tick 8;crash w;tick 3;crash ww;tick 1;check;tick 2;check;", 9, x -> {
            x.put(1, 0);
            x.put(0, 6);
            x.ticks(8);
            x.crash(0);
            x.ticks(3);
            x.crash(1);
            x.ticks(1);
            x.check();
            x.ticks(2);
        });
    }

    // ---- OVER, odds()

    private static void overGoesByTicks(String name, AgreedInput x, AgreedInput fresh) {
        int number = x.over();
        due.is("over() of " + name + " as of a new object", fresh.over(), number);
        due.is("over() of " + name + " is above 1", number > 1, true);
        for (int left = number - 1; left >= 0; left--) {
            x.ticks(1);
            due.is("over() of " + name, x.over(), left);
        }
        due.is("nothing has arrived that is not in the ORDER", x.now(3), 0);
        due.is("same()", x.same(), 1);
    }

    static void promise27_overIsWhatTicksDo() {
        overGoesByTicks("the first", first(), first());
        overGoesByTicks("the second", second(), second());
        AgreedInput x = first();
        x.over();
        x.odds(3, 3);
        tellSecond(x);
        overGoesByTicks("the second behind the first", x, second());
        AgreedInput y = second();
        y.over();
        tellFirst(y);
        overGoesByTicks("the first behind the second", y, first());
    }

    static void promise32_oddsAreWhatDrawnDoes() {
        int sum = 0;
        for (int seed = -3; seed < 7; seed++) {
            AgreedInput x = second();
            x.drawn(30, seed);
            sum += x.same();
        }
        int same = sum;
        due.is("some are the SAME, some are not", sum > 0 && sum < 10, true);
        alike("odds() leave all", x -> {
            tellFirst(x);
            x.over();
            x.odds(10, 8);
            tellSecond(x);
            due.is("odds(10, -3)", x.odds(10, -3), same);
        }, WhatStaysTest::tellSecond);
    }

    // ---- NAMES where a sort is full, bytes behind the tape's end

    static void terms_namesOfAFullSortEndWithIt() {
        StringBuilder text = new StringBuilder("site p;site q;site r;");
        for (char k = 'a'; k < 'k'; k++) {
            text.append("key k").append(k).append(" r 1;");
        }
        text.append("copy ca 1 first;copy cb 1 first;copy cc 1 first;");
        AgreedInput x = due.with(text.toString());
        due.is("the last KEY", Due.submit(x, 2, "kj = ka;"), 0);
        due.is("a COPY is no KEY", Due.submit(x, 2, "ca = 1;"), -2);
        due.is("fault()", x.fault(), 3);
        due.is("a SITE is no KEY", Due.submit(x, 2, "p = 1;"), -2);
        due.is("the last SITE", Due.book(x, 0, "put r 0;"), NONE);
        due.is("a KEY is no SITE", Due.book(x, 0, "put ka 0;"), -2 - 4);
        due.is("fault()", x.fault(), 3);
        due.is("the last COPY", Due.book(x, 0, "tick 5;crash cc;"), NONE);
        due.is("a KEY is no COPY", Due.book(x, 0, "crash kj;"), -2 - 6);
        due.is("no COPY at all", Due.book(x, 0, "crash cd;"), -2 - 6);
        due.is("writes a COPY", Due.sentence(x, "writes ca"), -1 - 7);
        due.is("from a KEY", Due.sentence(x, "from ka"), -1 - 5);
        due.is("from the last SITE", Due.sentence(x, "from r and writes kj"), 2);
        due.is("a KEY of a KEY", Due.world(x, "site p;site q;site r;key ka p 1;key kb ka 1;"), -1 - 39);
        due.is("fault()", x.fault(), 3);
    }

    static void promise03_bytesBehindTheEndAreNotRead() {
        AgreedInput x = due.with("site s;key a s 1;");
        Due.tape(x, "\0\1\u00ff\u00ff\u00ff\u00ff\u00ff\u00ff");
        x.end(2);
        due.is("so() of the first two", x.so(), 1);
        Due.tape(x, "\0\1\0\2");
        x.end(2);
        due.is("so() of the first two", x.so(), 1);
        due.is("so() of none", x.so(), NONE);
        Due.tape(x, "site s;site t;");
        x.end(7);
        due.is("world() of the first seven", x.world(), 1);
        Due.tape(x, "site stop;");
        x.end(6);
        due.is("a WORD ends there", x.world(), -1 - 6);
        Due.tape(x, "site abcdefgh;");
        x.end(12);
        due.is("a WORD of seven", x.world(), -1 - 12);
        due.is("fault()", x.fault(), 1);
        Due.tape(x, "link 1234;");
        x.end(6);
        x.feed(';' << 24, 0, 0, 0, 0);
        x.end(7);
        due.is("a NUMBER ends there", x.world(), 1);
        due.is("count(4)", x.count(4), 1);
    }

    public static void main(String[] args) {
        Cases.run(WhatStaysTest.class, due);
        due.finish();
    }
}
