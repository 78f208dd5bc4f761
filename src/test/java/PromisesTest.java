/** Each promise of the document by itself: ordinary inputs, the edges that it names, wrong inputs. */
public final class PromisesTest {
    private static final int NONE = -1;
    private static final int LOW = Integer.MIN_VALUE;
    private static final int HIGH = Integer.MAX_VALUE;
    private static final Due due = new Due("PromisesTest");

    /** KEYS a 5, b 7 at north, c 9 at south; an EPOCH of 2 TICKS, 'link' of 3; 1 WORKER first, 2 last. */
    private static final String TWO_SITES = "site north; site south; key a north 5; key b north 7; key c south 9;"
        + " copy main 1 first; copy spare 2 last; epoch 2; link 3;";
    /** One SITE, one COPY of 4 WORKERS, an EPOCH each TICK. */
    private static final String ONE_SITE = "site s; key a s 1; key b s 2; key c s 3; copy m 4 first; epoch 1; link 0;";

    private static void newObject() {
        AgreedInput x = new AgreedInput();
        int[] counts = {0, 0, 1, 5, 2, 0};
        for (int what = 0; what < counts.length; what++) {
            due.is("count(" + what + ")", x.count(what), counts[what]);
        }
        int[] now = {0, 0, 0, 0, 0, NONE, 0, 0, 0};
        for (int what = 0; what < now.length; what++) {
            due.is("now(" + what + ")", x.now(what), now[what]);
        }
        due.is("fault()", x.fault(), 0);
        due.is("undo()", x.undo(), NONE);
        due.is("soAt(0)", x.soAt(0), NONE);
        due.is("ask()", x.ask(), NONE);
        due.is("said(NONE)", x.said(NONE), NONE);
        due.is("restore(0)", x.restore(0), false);
        due.is("told(0)", x.told(0), NONE);
        due.is("same()", x.same(), 1);
        due.is("over()", x.over(), 0);
        due.is("AgreedInput.NONE", AgreedInput.NONE, -1);
        due.is("ticks(3)", x.ticks(3), 3);
        due.is("drawn(5, 7)", x.drawn(5, 7), 5);
    }

    private static void feed() {
        AgreedInput x = new AgreedInput();
        for (int i = 1; i <= 47; i++) {
            due.is("feed()", x.feed(0x20202020, 0, -1, LOW, HIGH), 20 * i);
        }
        due.is("feed() beyond 940", x.feed(1, 2, 3, 4, 5), NONE);
        due.is("none came", x.count(5), 940);
        x.end(921);
        due.is("feed() to 941", x.feed(1, 2, 3, 4, 5), NONE);
        x.end(920);
        due.is("feed() to 940", x.feed(1, 2, 3, 4, 5), 940);
        x.end(0);
        // the highest byte of a number first
        x.feed('s' << 24 | 'i' << 16 | 't' << 8 | 'e', ' ' << 24 | 'a' << 16 | ';' << 8 | ' ', 0x20202020, 0x20202020, 0x2020200a);
        due.is("world() of what was fed", x.world(), 1);
        due.is("count(0)", x.count(0), 1);
        // a byte is 0 to 255, of a negative number, too
        x.feed(0x80202020, 0x20202020, 0x20202020, 0x20202020, 0x20202020);
        due.is("world()", x.world(), -1);
        due.is("fault()", x.fault(), 1);
    }

    private static void end() {
        AgreedInput x = new AgreedInput();
        due.is("end(0)", x.end(0), true);
        due.is("end(1)", x.end(1), false);
        due.is("end(-1)", x.end(-1), false);
        x.feed(1, 2, 3, 4, 5);
        due.is("end(21)", x.end(21), false);
        due.is("end(20)", x.end(20), true);
        due.is("end(LOW)", x.end(LOW), false);
        due.is("end(HIGH)", x.end(HIGH), false);
        due.is("count(5)", x.count(5), 20);
        due.is("end(7)", x.end(7), true);
        due.is("count(5)", x.count(5), 7);
        due.is("feed() behind it", x.feed(1, 2, 3, 4, 5), 27);
    }

    private static void world() {
        AgreedInput x = new AgreedInput();
        due.is("world()", Due.world(x, TWO_SITES), 9);
        due.is("the tape is empty", x.count(5), 0);
        int[] counts = {2, 3, 2, 2, 3, 0};
        for (int what = 0; what < counts.length; what++) {
            due.is("count(" + what + ")", x.count(what), counts[what]);
        }
        due.is("a WORLD with a FAULT", Due.world(x, "site x; key x"), -1 - 12);
        due.is("the tape is empty", x.count(5), 0);
        due.is("it stays", x.count(1), 3);
        Due.submit(x, 0, "a = 1;");
        Due.sentence(x, "done");
        x.ticks(3);
        due.is("a WORLD with a FAULT", Due.world(x, "copy x 5 first;"), -1 - 7);
        due.is("now(0)", x.now(0), 3);
        due.is("now(1)", x.now(1), 1);
        due.is("said(NONE)", x.said(NONE), 1);
        due.is("undo()", x.undo(), 1);
        x.image(0);
        due.is("world() of nothing", Due.world(x, ""), 0);
        due.is("count(0)", x.count(0), 0);
        due.is("count(2)", x.count(2), 1);
        due.is("count(3)", x.count(3), 5);
        due.is("count(4)", x.count(4), 2);
        due.is("now(0)", x.now(0), 0);
        due.is("now(1)", x.now(1), 0);
        due.is("no SENTENCE", x.said(NONE), NONE);
        due.is("nothing can be undone", x.undo(), NONE);
        due.is("images stay", x.restore(0), true);
        String full = "site a;site b;site c;" + keys(10) + "copy x 1 last;copy y 4 first;copy z 2 last;epoch 20;link 9;";
        due.is("as many as there may be", Due.world(x, full), 18);
        due.is("count(1)", x.count(1), 10);
        due.is("key(9, 1)", x.key(9, 1), 999);
        due.is("value(2, 9)", x.value(2, 9), 999);
        String blanks = full + Due.times(900 - full.length(), " ");
        due.is("900 bytes", Due.world(x, blanks), 18);
        due.is("901 bytes", Due.world(x, blanks + "\n"), -901);
        due.is("fault()", x.fault(), 1);
        due.is("a TOKEN over the end is read whole", Due.world(x, Due.times(899, " ") + "site"), -901);
        due.is("one that is none counts ahead", Due.world(x, Due.times(899, " ") + "sitesites"), -900);
    }

    private static String keys(int n) {
        StringBuilder text = new StringBuilder();
        for (int k = 0; k < n; k++) {
            text.append("key k").append((char) ('a' + k)).append(" a 999;");
        }
        return text.toString();
    }

    private static void fault() {
        AgreedInput x = new AgreedInput();
        Due.world(x, "site a; epoch 21;");
        due.is("fault()", x.fault(), 2);
        Due.world(x, "site a;");
        due.is("fault()", x.fault(), 0);
        Due.sentence(x, "reads a");
        due.is("fault()", x.fault(), 3);
        Due.submit(x, 1, "");
        due.is("a submit() of -1000 leaves it", x.fault(), 3);
        Due.book(x, 2, "");
        due.is("a book() of -1000 leaves it", x.fault(), 3);
        Due.submit(x, 0, "");
        due.is("fault()", x.fault(), 1);
        Due.book(x, 0, "tick 61;");
        due.is("fault()", x.fault(), 2);
        Due.book(x, 0, "tick 60;");
        due.is("fault()", x.fault(), 0);
        Due.sentence(x, "done");
        due.is("fault()", x.fault(), 0);
        Due.so(x, 9, 9);
        due.is("fault()", x.fault(), 0);
    }

    private static void submit() {
        AgreedInput x = due.with(TWO_SITES);
        due.is("submit(0)", Due.submit(x, 0, "a = 1;"), 0);
        due.is("the tape is empty", x.count(5), 0);
        due.is("submit(1)", Due.submit(x, 1, "a = a + 1; need b < 9; c = a - b + 3 - 1;"), 1);
        due.is("arrived(0, 0)", x.arrived(0, 0), 0);
        due.is("arrived(1, 0)", x.arrived(1, 0), 1);
        due.is("submit(2)", Due.submit(x, 2, "a = 1;"), -1000);
        due.is("the tape stays", x.count(5), 6);
        due.is("submit(-1)", x.submit(-1), -1000);
        due.is("submit(LOW)", x.submit(LOW), -1000);
        due.is("submit(HIGH)", x.submit(HIGH), -1000);
        due.is("submit(1)", x.submit(1), 2);
        due.is("a FAULT", Due.submit(x, 1, "a = 1; b = d;"), -2 - 11);
        due.is("the tape is empty", x.count(5), 0);
        due.is("now(1)", x.now(1), 3);
        due.is("nothing", Due.submit(x, 0, ""), -2);
        due.is("blanks", Due.submit(x, 0, "  "), -4);
        String six = "a=1;b=2;c=3;a=4;b=5;need a=4;";
        due.is("200 bytes", Due.submit(x, 0, six + Due.times(200 - six.length(), " ")), 3);
        due.is("201 bytes", Due.submit(x, 0, six + Due.times(201 - six.length(), " ")), -202);
        for (int n = 4; n < 24; n++) {
            due.is("submit(0)", Due.submit(x, 0, "a = 1;"), n);
        }
        due.is("a 25th", Due.submit(x, 0, "a = 1;"), -1000);
        due.is("the tape stays", x.count(5), 6);
        due.is("now(1)", x.now(1), 24);
    }

    private static void put() {
        AgreedInput x = due.with(TWO_SITES, "at b = a; need c > 2;");
        due.is("put(1, 0)", x.put(1, 0), 0);
        due.is("now(1)", x.now(1), 2);
        due.is("its SITE", x.trans(1, 0), 1);
        due.is("its STEPS", x.trans(1, 1), 2);
        due.is("its 'at'", x.trans(1, 4), 1);
        due.is("arrived(1, 0)", x.arrived(1, 0), 1);
        due.is("put(2, 0)", x.put(2, 0), NONE);
        due.is("put(-1, 0)", x.put(-1, 0), NONE);
        due.is("put(0, 2)", x.put(0, 2), NONE);
        due.is("put(0, -1)", x.put(0, -1), NONE);
        due.is("put(HIGH, LOW)", x.put(HIGH, LOW), NONE);
        for (int n = 2; n < 24; n++) {
            due.is("put(0, 1)", x.put(0, 1), 0);
        }
        due.is("there are 24", x.put(0, 1), 1);
        due.is("now(1)", x.now(1), 24);
        due.is("now(3)", x.now(3), 24);
        due.is("the last one's STEPS", x.trans(23, 1), 2);
        due.is("put(0, 24)", x.put(0, 24), NONE);
    }

    private static void check() {
        AgreedInput x = due.with(ONE_SITE, "a = 10;", "b = 20; c = 30;");
        x.ticks(1);
        due.is("check()", x.check(), 0);
        due.is("one is on", x.check(), 1);
        due.is("its POINT", x.now(5), 2);
        due.is("nothing is TAKEN", x.now(6), 0);
        Due.submit(x, 0, "a = 100; c = 300;");
        // both ahead of POINT go, then a is TAKEN, then the new one comes into the ORDER
        x.ticks(1);
        due.is("now(6)", x.now(6), 1);
        due.is("now(7)", x.now(7), 0);
        // it is DONE: c is not TAKEN and has a TWIN, a is TAKEN; then b is
        x.ticks(1);
        due.is("now(6)", x.now(6), 3);
        due.is("now(7)", x.now(7), 4);
        due.is("key(2, 3)", x.key(2, 3), 30);
        due.is("value(0, 2)", x.value(0, 2), 300);
        x.ticks(1);
        due.is("the CHECK is over", x.now(4), 0);
        due.is("now(5)", x.now(5), NONE);
        due.is("now(6)", x.now(6), 0);
        due.is("now(7)", x.now(7), 0);
        due.is("POINT", x.now(8), 2);
        due.is("key(0, 2)", x.key(0, 2), 10);
        due.is("key(1, 2)", x.key(1, 2), 20);
        due.is("key(2, 2)", x.key(2, 2), 30);
        due.is("check() again", x.check(), 0);
        due.is("POINT stays till it is over", x.now(8), 2);
        AgreedInput without = new AgreedInput();
        due.is("without KEYS", without.check(), 0);
        due.is("it is the CHECKPOINT at once", without.now(4), 0);
        AgreedInput slow = due.with("site s; site t; key a s 1; key b t 2; epoch 1; link 4;", "a = b;");
        slow.ticks(1);
        slow.check();
        slow.ticks(4);
        due.is("nothing is TAKEN ahead of POINT's going", slow.now(6), 0);
        slow.ticks(1);
        due.is("now(6)", slow.now(6), 1);
    }

    private static void crash() {
        AgreedInput x = due.with(ONE_SITE, "a = 10;", "b = a + 1; need c = 3;", "need c = 4;");
        due.is("no ENTRY in the ORDER", x.crash(0), 1);
        due.is("crash(1)", x.crash(1), NONE);
        due.is("crash(-1)", x.crash(-1), NONE);
        due.is("crash(HIGH)", x.crash(HIGH), NONE);
        x.ticks(3);
        due.is("value(0, 1)", x.value(0, 1), 11);
        due.is("how(0, 2)", x.how(0, 2), 4);
        due.is("crash(0)", x.crash(0), 0);
        due.is("VALUES as told", x.value(0, 0), 1);
        due.is("all is WAITING", x.how(0, 0), 0);
        due.is("who asks for a", x.asks(0, 0, 1), 2);
        x.ticks(2);
        due.is("value(0, 1)", x.value(0, 1), 11);
        x.check();
        x.ticks(3);
        Due.submit(x, 0, "a = 77;");
        x.ticks(2);
        due.is("value(0, 0)", x.value(0, 0), 77);
        due.is("crash(0)", x.crash(0), 0);
        due.is("VALUES of the CHECKPOINT", x.value(0, 0), 10);
        due.is("how(0, 0)", x.how(0, 0), 2);
        due.is("how(0, 2)", x.how(0, 2), 4);
        due.is("how(0, 3)", x.how(0, 3), 0);
        due.is("asks(0, 0, 0)", x.asks(0, 0, 0), 7);
        x.check();
        x.crash(0);
        due.is("a CHECK that is on is given up", x.now(4), 0);
        due.is("POINT of the CHECKPOINT", x.now(8), 3);

        AgreedInput two = due.with(TWO_SITES, "c = 1; a = 2;");
        two.ticks(3);
        due.is("how(1, 0)", two.how(1, 0), 1);
        two.check();
        due.is("crash(1)", two.crash(1), 0);
        due.is("how(1, 0)", two.how(1, 0), 0);
        due.is("how(0, 0)", two.how(0, 0), 1);
        due.is("a CHECK stays, if it is another COPY", two.now(4), 1);
        two.ticks(2);
        due.is("it has as long to go as any", two.how(1, 0), 1);
        two.ticks(1);
        due.is("how(0, 0)", two.how(0, 0), 2);
        due.is("how(1, 0)", two.how(1, 0), 1);
        two.ticks(1);
        due.is("how(1, 0)", two.how(1, 0), 2);
    }

    private static void ticks() {
        AgreedInput x = due.with(TWO_SITES);
        due.is("ticks(0)", x.ticks(0), NONE);
        due.is("ticks(61)", x.ticks(61), NONE);
        due.is("ticks(-1)", x.ticks(-1), NONE);
        due.is("ticks(LOW)", x.ticks(LOW), NONE);
        due.is("ticks(1)", x.ticks(1), 1);
        due.is("now(0)", x.now(0), 1);
        for (int i = 0; i < 16; i++) {
            due.is("ticks(60)", x.ticks(60), 60);
        }
        due.is("ticks(60) near the end", x.ticks(60), 39);
        due.is("now(0)", x.now(0), 1000);
        due.is("ticks(1)", x.ticks(1), 0);
        due.is("drawn(1, 1)", x.drawn(1, 1), 0);
        due.is("none went by, so none is undone", x.undo(), 7);
        due.is("now(0)", x.now(0), 961);
        x.ticks(60);
        due.is("submit() still", Due.submit(x, 0, "a = 1;"), 0);
        due.is("over() all the same", x.over(), 3);
    }

    /** In which order all that a TICK does is done. */
    private static void order() {
        // an EPOCH ends in the last TICK of it, and what is ready then goes in the next one
        AgreedInput x = due.with(TWO_SITES, "a = a + 1;", "b = 2;", "c = 1; a = 2;");
        Due.submit(x, 1, "c = c + 1;");
        x.ticks(1);
        due.is("now(2)", x.now(2), 0);
        x.ticks(1);
        due.is("now(2)", x.now(2), 4);
        due.is("how(0, 0)", x.how(0, 0), 0);
        x.ticks(1);
        // one WORKER, first; two, last: 1 and 0 (2 waits for 0, 3 for 2)
        due.is("how(0, 0)", x.how(0, 0), 2);
        due.is("how(0, 1)", x.how(0, 1), 0);
        due.is("how(1, 0)", x.how(1, 0), 2);
        due.is("how(1, 1)", x.how(1, 1), 2);
        x.ticks(1);
        due.is("how(0, 1)", x.how(0, 1), 2);
        due.is("who is WIDE is GOING", x.how(1, 2), 1);
        due.is("how(1, 3)", x.how(1, 3), 0);
        x.ticks(2);
        due.is("how(1, 2)", x.how(1, 2), 1);
        // GOING ends ahead of the taking: the next one goes in the same TICK
        x.ticks(1);
        due.is("how(1, 2)", x.how(1, 2), 2);
        due.is("how(1, 3)", x.how(1, 3), 2);
        due.is("value(1, 2)", x.value(1, 2), 2);
        due.is("how(0, 2)", x.how(0, 2), 1);
        x.ticks(1);
        due.is("how(0, 2)", x.how(0, 2), 2);
        due.is("how(0, 3)", x.how(0, 3), 2);

        // who was not READY ahead of the taking is not taken in that TICK
        AgreedInput y = due.with(ONE_SITE, "a = 1;", "a = 2;", "a = 3;");
        y.ticks(2);
        due.is("how(0, 0)", y.how(0, 0), 2);
        due.is("how(0, 1)", y.how(0, 1), 0);

        // WORKERS who have sent one off are free in the next TICK
        AgreedInput z = due.with("site s; site t; key a s 1; key b s 2; key c t 3; copy m 1 first; epoch 1; link 9;", "a = c;", "b = c;");
        z.ticks(3);
        due.is("how(0, 0)", z.how(0, 0), 1);
        due.is("how(0, 1)", z.how(0, 1), 1);
    }

    private static void arithmetic() {
        AgreedInput x = due.with("site s; key a s 999; key b s 0; key i s 5; copy m 4 first; epoch 1;",
            "a = a + a + a + a; a = a + a + a + a; a = a + a + a + a; a = a + a + a + a; a = a + a + a + a; a = a + a + a + a;",
            "a = a + a + a + a; a = a + a + a + a; a = a + a + a + a; a = a + a + a + a; a = a + a + a + a; a = a + a + a + a;",
            "b = 0 - 5; b = b - 999 - b;", "i = 0 - 4;", "at i = 50;");
        x.ticks(3);
        due.is("ints, wrapping", x.value(0, 0), 999 * (1 << 24));
        due.is("value(0, 1)", x.value(0, 1), -999);
        // FORESEEN by 5 modulo 3: i itself; by -4: i, too
        due.is("foreseen(4, 0)", x.foreseen(4, 0), 2);
        due.is("a KEY by a VALUE below 0", x.value(0, 2), 50);

        AgreedInput y = due.with(ONE_SITE, "a = 9; need a = 9; b = a + 1; need b > a; need a < b;", "c = 9; need a < 9;",
            "need a > 9; c = 8;", "need a = 8; c = 8;");
        y.ticks(5);
        due.is("what STEPS gave goes ahead of VALUES", y.value(0, 1), 10);
        due.is("how(0, 0)", y.how(0, 0), 2);
        due.is("how(0, 1)", y.how(0, 1), 4);
        due.is("how(0, 2)", y.how(0, 2), 4);
        due.is("how(0, 3)", y.how(0, 3), 4);
        due.is("nothing of a STOPPED one is written", y.value(0, 2), 3);
    }

    private static void retried() {
        // i is 1: at i is j
        String world = "site s; key i s 1; key j s 20; key k s 30; copy m 1 first; copy n 1 first; epoch 2;";
        AgreedInput x = due.with(world, "i = 2;", "at i = at i + 1;");
        x.ticks(2);
        due.is("foreseen(1, 0)", x.foreseen(1, 0), 1);
        due.is("foreseen(1, 1)", x.foreseen(1, 1), 1);
        due.is("it WRITES j", x.entry(1, 3), 2);
        due.is("it READS i", x.entry(1, 2), 1);
        x.ticks(1);
        due.is("trans(1, 2)", x.trans(1, 2), 1);
        x.ticks(1);
        due.is("how(0, 1)", x.how(0, 1), 3);
        due.is("how(1, 1)", x.how(1, 1), 3);
        due.is("trans(1, 2)", x.trans(1, 2), 2);
        due.is("in the same TICK's EPOCH", x.now(2), 3);
        due.is("trans(1, 3)", x.trans(1, 3), 2);
        due.is("foreseen anew", x.foreseen(2, 0), 2);
        x.ticks(1);
        due.is("value(0, 2)", x.value(0, 2), 31);
        due.is("value(0, 1)", x.value(0, 1), 20);
        x.crash(0);
        x.ticks(4);
        due.is("how(0, 1)", x.how(0, 1), 3);
        due.is("only the first time", x.trans(1, 2), 2);
        due.is("now(3)", x.now(3), 0);
        due.is("same()", x.same(), 1);

        // an 'at' ahead of '=' alone READS its index, and is what was FORESEEN even if a STEP changes the index
        AgreedInput y = due.with(world, "i = 2; at i = 5;");
        y.ticks(3);
        due.is("value(0, 0)", y.value(0, 0), 2);
        due.is("value(0, 1)", y.value(0, 1), 5);
        due.is("value(0, 2)", y.value(0, 2), 30);
    }

    private static void undo() {
        AgreedInput x = due.with(ONE_SITE);
        due.is("undo()", x.undo(), NONE);
        Due.submit(x, 0, "a = 9; b = 8;");
        x.put(0, 0);
        x.check();
        x.ticks(2);
        x.crash(0);
        x.drawn(2, 99);
        due.is("a BOOK", Due.book(x, 1, "tick 3; check; put s 23; tick 1;"), 2);
        int tick = x.now(0);
        due.is("now(0)", tick, 7);
        due.is("undo() of the BOOK", x.undo(), 6);
        due.is("now(0)", x.now(0), 4);
        due.is("undo() of what was drawn", x.undo(), 5);
        due.is("now(0)", x.now(0), 2);
        due.is("how(0, 0)", x.how(0, 0), 0);
        due.is("undo() of crash()", x.undo(), 4);
        due.is("how(0, 0)", x.how(0, 0), 2);
        due.is("value(0, 0)", x.value(0, 0), 9);
        due.is("undo() of ticks()", x.undo(), 3);
        due.is("now(0)", x.now(0), 0);
        due.is("now(4)", x.now(4), 1);
        due.is("undo() of check()", x.undo(), 2);
        due.is("now(4)", x.now(4), 0);
        due.is("undo() of put()", x.undo(), 1);
        due.is("now(1)", x.now(1), 1);
        due.is("undo() of submit()", x.undo(), 0);
        due.is("now(1)", x.now(1), 0);
        due.is("undo()", x.undo(), NONE);

        // what changed nothing is none of them
        x.ticks(61);
        x.crash(0);
        Due.submit(x, 0, "a");
        x.put(0, 0);
        Due.book(x, 1, "");
        Due.book(x, 1, "put s 0;");
        Due.book(x, 0, "tick 3;");
        Due.sentence(x, "done");
        Due.so(x, 0, 1);
        x.image(0);
        x.over();
        x.odds(2, 2);
        due.is("undo()", x.undo(), NONE);
        x.check();
        x.check();
        due.is("undo()", x.undo(), 0);

        for (int i = 1; i <= 9; i++) {
            x.ticks(i);
        }
        for (int left = 7; left >= 0; left--) {
            due.is("8 are kept", x.undo(), left);
        }
        due.is("undo()", x.undo(), NONE);
        due.is("the first one stays done", x.now(0), 1);
        x.ticks(5);
        Due.sentence(x, "going");
        Due.tape(x, "abc");
        due.is("undo()", x.undo(), 0);
        due.is("the tape stays", x.count(5), 3);
        due.is("the SENTENCE stays", x.said(NONE), 0);
    }

    private static void now() {
        AgreedInput x = due.with(TWO_SITES, "a = 1;", "b = 1;");
        x.ticks(3);
        x.put(1, 0);
        x.check();
        int[] now = {3, 3, 2, 1, 1, 2, 0, 0, 0};
        for (int what = 0; what < now.length; what++) {
            due.is("now(" + what + ")", x.now(what), now[what]);
        }
        due.is("now(-1)", x.now(-1), NONE);
        due.is("now(9)", x.now(9), NONE);
        due.is("now(LOW)", x.now(LOW), NONE);
        due.is("now(HIGH)", x.now(HIGH), NONE);
    }

    private static void value() {
        AgreedInput x = due.with(TWO_SITES, "a = 12;");
        due.is("value(0, 0)", x.value(0, 0), 5);
        due.is("value(1, 2)", x.value(1, 2), 9);
        x.ticks(3);
        due.is("value(0, 0)", x.value(0, 0), 12);
        int[][] none = {{-1, 0}, {2, 0}, {0, -1}, {0, 3}, {LOW, HIGH}, {1, 10}};
        for (int[] n : none) {
            due.throwsNoSuch("value(" + n[0] + ", " + n[1] + ")", () -> x.value(n[0], n[1]));
        }
    }

    private static void key() {
        AgreedInput x = due.with(TWO_SITES, "a = 12; b = 13;");
        due.is("key(2, 0)", x.key(2, 0), 1);
        due.is("key(1, 0)", x.key(1, 0), 0);
        due.is("key(1, 1)", x.key(1, 1), 7);
        due.is("key(1, 2)", x.key(1, 2), 7);
        due.throwsNoSuch("key(1, 3)", () -> x.key(1, 3));
        x.check();
        due.throwsNoSuch("key(1, 3)", () -> x.key(1, 3));
        // POINT 0 is asked for ahead of the EPOCH's end, so the ENTRY is behind it; a is TAKEN then, b not
        AgreedInput y = due.with(ONE_SITE, "a = 12; c = 13;");
        y.check();
        y.ticks(1);
        due.is("now(6)", y.now(6), 1);
        y.ticks(1);
        due.throwsNoSuch("a was TAKEN ahead of the writing", () -> y.key(0, 3));
        due.throwsNoSuch("b is not written", () -> y.key(1, 3));
        due.is("key(2, 3)", y.key(2, 3), 3);
        y.image(0);
        // another CHECK, with another TWIN of that KEY
        due.is("ahead of all", y.undo(), 3);
        y.ticks(6);
        y.check();
        Due.submit(y, 0, "c = 14;");
        due.is("book(0)", Due.book(y, 0, "tick 2;"), NONE);
        due.throwsNoSuch("key(2, 3)", () -> y.key(2, 3));
        due.is("book(1)", Due.book(y, 1, "tick 2;"), NONE);
        due.is("key(2, 3) by a BOOK", y.key(2, 3), 13);
        y.image(1);
        y.restore(0);
        due.is("key(2, 3) as kept", y.key(2, 3), 3);
        y.ticks(1);
        y.ticks(1);
        y.check();
        Due.submit(y, 0, "c = 1;");
        y.ticks(2);
        y.undo();
        y.restore(1);
        due.is("key(2, 3) as kept", y.key(2, 3), 13);
        int[][] none = {{-1, 0}, {3, 0}, {0, -1}, {0, 4}, {LOW, 1}, {10, 2}, {0, HIGH}};
        for (int[] n : none) {
            due.throwsNoSuch("key(" + n[0] + ", " + n[1] + ")", () -> y.key(n[0], n[1]));
        }
    }

    private static void trans() {
        AgreedInput x = due.with(TWO_SITES, "a = 1; b = at a; at b = at c; need at a = 3;");
        Due.submit(x, 1, "c = 1;");
        int[] first = {0, 4, 1, NONE, 4, NONE};
        int[] second = {1, 1, 1, NONE, 0, NONE};
        for (int what = 0; what < 6; what++) {
            due.is("trans(0, " + what + ")", x.trans(0, what), first[what]);
            due.is("trans(1, " + what + ")", x.trans(1, what), second[what]);
        }
        x.ticks(2);
        due.is("trans(0, 3)", x.trans(0, 3), 0);
        due.is("trans(1, 3)", x.trans(1, 3), 1);
        due.is("trans(0, -1)", x.trans(0, -1), NONE);
        due.is("trans(-1, 0)", x.trans(-1, 0), NONE);
        due.is("trans(2, 0)", x.trans(2, 0), NONE);
        due.is("trans(HIGH, LOW)", x.trans(HIGH, LOW), NONE);
    }

    private static void arrived() {
        AgreedInput x = due.with(TWO_SITES, "a = 1;");
        Due.submit(x, 1, "a = 2;");
        Due.submit(x, 0, "a = 3;");
        due.is("arrived(0, 0)", x.arrived(0, 0), 0);
        due.is("arrived(0, 1)", x.arrived(0, 1), 2);
        due.is("arrived(0, 2)", x.arrived(0, 2), NONE);
        due.is("arrived(1, 0)", x.arrived(1, 0), 1);
        due.is("arrived(2, 0)", x.arrived(2, 0), NONE);
        due.is("arrived(-1, 0)", x.arrived(-1, 0), NONE);
        due.is("arrived(0, -1)", x.arrived(0, -1), NONE);
        due.is("arrived(LOW, HIGH)", x.arrived(LOW, HIGH), NONE);
        x.ticks(2);
        due.is("SITE by SITE into the ORDER", x.entry(1, 0), 2);
        due.is("entry(2, 0)", x.entry(2, 0), 1);
        due.is("arrived(0, 0)", x.arrived(0, 0), NONE);
    }

    private static void entry() {
        AgreedInput x = due.with(TWO_SITES, "a = b + 1;", "need b > 3; b = b + c;", "need b = 2;");
        Due.submit(x, 1, "c = c + at b;");
        x.ticks(2);
        int[][] entries = {
            {0, 0, 2, 1, 0, 0, NONE}, {1, 0, 4, 2, 1, 1, NONE}, {2, 0, 2, 0, 0, 1, NONE},
            // b is 7: modulo 3 it is KEY 1, b itself
            {3, 1, 2, 4, 1, 1, NONE}};
        for (int i = 0; i < entries.length; i++) {
            for (int what = 0; what < 7; what++) {
                due.is("entry(" + i + ", " + what + ")", x.entry(i, what), entries[i][what]);
            }
        }
        due.is("entry(0, -1)", x.entry(0, -1), NONE);
        due.is("entry(-1, 0)", x.entry(-1, 0), NONE);
        due.is("entry(4, 0)", x.entry(4, 0), NONE);
        due.is("entry(HIGH, LOW)", x.entry(HIGH, LOW), NONE);
    }

    private static void how() {
        AgreedInput x = due.with(TWO_SITES, "a = c;", "need b = 0;", "b = 1;");
        x.ticks(2);
        due.is("how(0, 0)", x.how(0, 0), 0);
        x.ticks(1);
        due.is("how(0, 0)", x.how(0, 0), 1);
        due.is("how(1, 0)", x.how(1, 0), 1);
        due.is("how(0, 1)", x.how(0, 1), 0);
        due.is("how(1, 1)", x.how(1, 1), 4);
        x.ticks(3);
        due.is("how(0, 0)", x.how(0, 0), 2);
        due.is("how(0, 1)", x.how(0, 1), 4);
        due.is("how(2, 0)", x.how(2, 0), NONE);
        due.is("how(-1, 0)", x.how(-1, 0), NONE);
        due.is("how(0, 3)", x.how(0, 3), NONE);
        due.is("how(0, -1)", x.how(0, -1), NONE);
        due.is("how(HIGH, LOW)", x.how(HIGH, LOW), NONE);
    }

    private static void foreseen() {
        AgreedInput x = due.with(TWO_SITES, "at a = at c; need at b = 1;", "a = 1;");
        due.is("nothing is in the ORDER", x.foreseen(0, 0), NONE);
        x.ticks(2);
        due.is("5 modulo 3", x.foreseen(0, 0), 2);
        due.is("9 modulo 3", x.foreseen(0, 1), 0);
        due.is("7 modulo 3", x.foreseen(0, 2), 1);
        due.is("foreseen(0, 3)", x.foreseen(0, 3), NONE);
        due.is("foreseen(0, -1)", x.foreseen(0, -1), NONE);
        due.is("foreseen(1, 0)", x.foreseen(1, 0), NONE);
        due.is("foreseen(2, 0)", x.foreseen(2, 0), NONE);
        due.is("foreseen(-1, 0)", x.foreseen(-1, 0), NONE);
        due.is("foreseen(LOW, HIGH)", x.foreseen(LOW, HIGH), NONE);
    }

    private static void asks() {
        AgreedInput x = due.with(TWO_SITES, "need a = 5;", "a = b;", "need b = 7; c = a;");
        x.ticks(2);
        due.is("asks(0, 0, 0)", x.asks(0, 0, 0), 0);
        due.is("asks(0, 0, 1)", x.asks(0, 0, 1), 3);
        due.is("asks(0, 0, 2)", x.asks(0, 0, 2), 4);
        due.is("asks(0, 0, 3)", x.asks(0, 0, 3), NONE);
        due.is("asks(1, 1, 0)", x.asks(1, 1, 0), 2);
        due.is("asks(1, 1, 1)", x.asks(1, 1, 1), 4);
        due.is("asks(1, 2, 0)", x.asks(1, 2, 0), 5);
        due.is("asks(2, 0, 0)", x.asks(2, 0, 0), NONE);
        due.is("asks(-1, 0, 0)", x.asks(-1, 0, 0), NONE);
        due.is("asks(0, 3, 0)", x.asks(0, 3, 0), NONE);
        due.is("asks(0, -1, 0)", x.asks(0, -1, 0), NONE);
        due.is("asks(0, 0, -1)", x.asks(0, 0, -1), NONE);
        due.is("asks(HIGH, LOW, HIGH)", x.asks(HIGH, LOW, HIGH), NONE);
        x.ticks(1);
        due.is("who was EXECUTED asks for none", x.asks(0, 0, 0), 3);
        x.ticks(2);
        due.is("who is GOING still does", x.asks(0, 2, 0), 5);
        due.is("how(0, 2)", x.how(0, 2), 1);
    }

    private static void ready() {
        AgreedInput x = due.with(TWO_SITES, "need a = 5;", "need a = 5; b = 1;", "a = 1;", "need c = 1;");
        x.ticks(2);
        due.is("ready(0, 0)", x.ready(0, 0), 0);
        due.is("who READ may be together", x.ready(0, 1), 1);
        due.is("ready(0, 2)", x.ready(0, 2), 3);
        due.is("ready(0, 3)", x.ready(0, 3), NONE);
        due.is("ready(1, 2)", x.ready(1, 2), 3);
        due.is("ready(2, 0)", x.ready(2, 0), NONE);
        due.is("ready(-1, 0)", x.ready(-1, 0), NONE);
        due.is("ready(0, -1)", x.ready(0, -1), NONE);
        due.is("ready(LOW, HIGH)", x.ready(LOW, HIGH), NONE);
        // in COPY 1 the two last ones are taken: 3 and 1
        x.ticks(1);
        due.is("ready(0, 0)", x.ready(0, 0), 1);
        due.is("ready(1, 0)", x.ready(1, 0), 0);
        due.is("ready(1, 1)", x.ready(1, 1), NONE);
    }

    private static void waits() {
        AgreedInput x = due.with(TWO_SITES, "a = c;", "b = 1;", "a = 2; b = 3;", "need a = 1;");
        x.ticks(2);
        due.is("waits(0, 0)", x.waits(0, 0), 0);
        due.is("waits(0, 1)", x.waits(0, 1), 0);
        due.is("waits(0, 2)", x.waits(0, 2), 2);
        due.is("waits(0, 3)", x.waits(0, 3), 2);
        x.ticks(1);
        due.is("one of them is EXECUTED, one GOING", x.waits(1, 2), 1);
        due.is("who is GOING does not WAIT", x.waits(1, 0), 0);
        x.ticks(3);
        due.is("waits(1, 2)", x.waits(1, 2), 0);
        due.is("waits(2, 0)", x.waits(2, 0), NONE);
        due.is("waits(-1, 0)", x.waits(-1, 0), NONE);
        due.is("waits(0, 4)", x.waits(0, 4), NONE);
        due.is("waits(0, -1)", x.waits(0, -1), NONE);
        due.is("waits(HIGH, LOW)", x.waits(HIGH, LOW), NONE);
    }

    private static void serial() {
        AgreedInput x = due.with(TWO_SITES, "a = a + b;", "need a = 12; b = a;", "need a = 13; c = 1;");
        due.is("serial(0)", x.serial(0), 5);
        x.ticks(2);
        due.is("serial(0)", x.serial(0), 12);
        due.is("serial(1)", x.serial(1), 12);
        due.is("serial(2)", x.serial(2), 9);
        due.is("nothing has gone so far", x.value(0, 0), 5);
        due.throwsNoSuch("serial(3)", () -> x.serial(3));
        due.throwsNoSuch("serial(-1)", () -> x.serial(-1));
        due.throwsNoSuch("serial(HIGH)", () -> x.serial(HIGH));
    }

    private static void same() {
        AgreedInput x = due.with(TWO_SITES, "a = 1;", "b = 2;");
        due.is("nothing in the ORDER", x.same(), 1);
        x.ticks(2);
        due.is("same()", x.same(), 0);
        x.ticks(1);
        due.is("not in all COPIES", x.same(), 0);
        x.ticks(1);
        due.is("same()", x.same(), 1);
        x.crash(1);
        due.is("same()", x.same(), 0);
        x.ticks(1);
        due.is("same()", x.same(), 1);
    }

    private static void chainAndLeast() {
        AgreedInput x = due.with(TWO_SITES);
        due.is("chain()", x.chain(), 0);
        due.is("least()", x.least(), 0);
        Due.submit(x, 0, "a = 1;");
        Due.submit(x, 0, "b = 1;");
        Due.submit(x, 0, "c = a;");
        Due.submit(x, 0, "need c = 1;");
        Due.submit(x, 0, "need c = 1;");
        due.is("none in the ORDER", x.chain(), 0);
        x.ticks(2);
        due.is("chain()", x.chain(), 3);
        due.is("least()", x.least(), 1 + 4 + 1);
        x.ticks(20);
        due.is("chain() of all, EXECUTED ones, too", x.chain(), 3);
        due.is("least()", x.least(), 6);
        AgreedInput y = due.with("site s; site t; key a s 1; key b t 2; epoch 1; link 0;", "a = b;", "b = a;");
        y.ticks(1);
        due.is("chain()", y.chain(), 2);
        due.is("without 'link'", y.least(), 2);
    }

    private static void over() {
        AgreedInput x = due.with(TWO_SITES);
        due.is("over()", x.over(), 0);
        Due.submit(x, 0, "c = a;");
        // two TICKS till the EPOCH ends, one to be taken, three to go
        due.is("over()", x.over(), 6);
        x.ticks(1);
        due.is("over()", x.over(), 5);
        due.is("nothing went", x.now(0), 1);
        x.ticks(5);
        due.is("over()", x.over(), 0);
        AgreedInput y = due.with("site s; site t; key a s 1; key b t 2; copy m 1 first; epoch 20; link 9;", "a = b;");
        for (int n = 1; n < 24; n++) {
            y.put(1, 0);
        }
        due.is("over()", y.over(), 20 + 24 * 9 + 1);
        // more than 40 ENTRIES: the last ones never come into the ORDER
        longestOver();
        fullOrder();
    }

    /** 8 TRANS of which one goes and the others are asked anew, all sent over, and 4 more: 406 TICKS. */
    private static void longestOver() {
        AgreedInput x = due.with("site s; site t; key i s 0; key j t 0; key k s 0; copy m 1 first; epoch 18; link 9;",
            "at k = 5; k = 1 - k; j = j;", "i = j;");
        for (int n = 1; n < 8; n++) {
            x.put(0, 0);
        }
        for (int n = 1; n < 4; n++) {
            x.put(0, 1);
        }
        due.is("not in 400", x.over(), NONE);
        for (int i = 0; i < 1000 && x.over() == NONE; i++) {
            x.ticks(1);
        }
        due.is("in 400", x.over(), 400);
        x.undo();
        due.is("not in 401", x.over(), NONE);
    }

    /** The ORDER has 40 ENTRIES at most: here each TRANS makes the index another one, so all are asked anew till it is full. */
    private static void fullOrder() {
        AgreedInput x = due.with("site s; key i s 0; key j s 0; key k s 7; copy m 1 first; epoch 3;", "at j = at j + 1; at j = at j + 1; j = 1 - j;");
        for (int n = 1; n < 24; n++) {
            x.put(0, 0);
        }
        for (int i = 0; i < 16 && x.now(2) < 40; i++) {
            x.ticks(60);
        }
        due.is("the ORDER is full", x.now(2), 40);
        due.is("ENTRIES that stay", x.now(3) > 0, true);
        due.is("entry(39, 0)", x.entry(39, 0) >= 0, true);
        due.is("entry(40, 0)", x.entry(40, 0), NONE);
        due.is("same()", x.same(), 1);
        due.is("those that stay are never in the ORDER", x.over(), NONE);
        due.is("arrived(0, 0)", x.arrived(0, 0) >= 0, true);
        x.ticks(9);
        due.is("now(2)", x.now(2), 40);
        due.is("so() behind 0 to 40", Due.so(x, 2, 7), 41);
        due.is("soAt(40)", x.soAt(40), 40);
        due.is("soAt(41)", x.soAt(41), NONE);
        due.is("ask()", x.ask() < 2, true);
        due.is("a place beyond", x.said(NONE), NONE);
        due.says(x, "place > 38", 39);
    }

    private static void so() {
        AgreedInput x = due.with(TWO_SITES, "a = 1; b = 3;", "a = 5;", "a = 1; c = 4;", "a = 300;", "a = 0 - 1;", "a = 1;");
        x.ticks(2);
        due.is("a is 5", Due.so(x, 0, 5), 2);
        due.is("soAt(0)", x.soAt(0), 0);
        due.is("soAt(1)", x.soAt(1), 2);
        due.is("soAt(2)", x.soAt(2), NONE);
        due.is("soAt(-1)", x.soAt(-1), NONE);
        due.is("soAt(HIGH)", x.soAt(HIGH), NONE);
        due.is("a is 1", Due.so(x, 0, 1), 3);
        due.is("the tape is empty", x.count(5), 0);
        due.is("a is 1, c is 4", Due.so(x, 0, 1, 2, 4), 2);
        due.is("soAt(0)", x.soAt(0), 3);
        due.is("soAt(1)", x.soAt(1), 6);
        due.is("a VALUE above 255 is no byte's", Due.so(x, 0, 300 & 255), 0);
        due.is("one below 0", Due.so(x, 0, 255), 0);
        due.is("none of them", x.soAt(0), NONE);
        due.is("six pairs", Due.so(x, 1, 3, 1, 3, 1, 3, 1, 3, 1, 3, 1, 3), 6);
        due.is("seven", Due.so(x, 1, 3, 1, 3, 1, 3, 1, 3, 1, 3, 1, 3, 1, 3), NONE);
        due.is("the tape is empty", x.count(5), 0);
        due.is("the latest that was not NONE", x.soAt(5), 6);
        due.is("nothing", Due.so(x), NONE);
        due.is("half a pair", Due.so(x, 0, 5, 0), NONE);
        due.is("no such KEY", Due.so(x, 0, 5, 3, 0), NONE);
        due.is("no such KEY", Due.so(x, 255, 5), NONE);
        due.is("soAt(5)", x.soAt(5), 6);
        Due.world(x, "");
        due.is("what was told last stays", x.soAt(5), 6);
    }

    private static void ask() {
        AgreedInput x = due.with(TWO_SITES, "b = 8;", "b = 9; c = 10;", "a = 6;", "c = 11;", "a = 5;");
        x.ticks(2);
        due.is("ask()", x.ask(), NONE);
        due.is("none are so", Due.so(x, 0, 99), 0);
        due.is("ask()", x.ask(), NONE);
        // behind 0, 1, 2, 5: b 7 8 9 9, c 9 9 10 11: of both two at most are alike
        due.is("a is 5", Due.so(x, 0, 5), 4);
        due.is("the first of like ones", x.ask(), 1);
        // behind 2, 3, 4, 5: a 5 6 6 5, c 10 10 11 11
        due.is("b is 9", Due.so(x, 1, 9), 4);
        due.is("ask()", x.ask(), 0);
        // behind 2, 3: a 5 6, b 9 9
        due.is("c is 10", Due.so(x, 2, 10), 2);
        due.is("ask()", x.ask(), 0);
        // behind 0, 1: b alone is another one
        due.is("c is 9", Due.so(x, 2, 9), 2);
        due.is("ask()", x.ask(), 1);
        due.is("none are so", Due.so(x, 0, 99), 0);
        due.is("ask() by the latest above 0", x.ask(), 1);
        due.is("not as told", Due.so(x, 0), NONE);
        due.is("ask()", x.ask(), 1);
        x.undo();
        due.is("by what was so then", x.ask(), 1);
    }

    private static void drawn() {
        AgreedInput x = due.with(TWO_SITES);
        due.is("drawn(0, 1)", x.drawn(0, 1), NONE);
        due.is("drawn(61, 1)", x.drawn(61, 1), NONE);
        due.is("drawn(-1, 1)", x.drawn(-1, 1), NONE);
        due.is("drawn(60, LOW)", x.drawn(60, LOW), 60);
        due.is("now(0)", x.now(0), 60);
        for (int s = 0; s < 60; s++) {
            oneDraw(s);
        }
    }

    /** One TICK drawn, with all draws told anew here. */
    private static void oneDraw(int seed) {
        AgreedInput x = due.with(TWO_SITES, "a = a + 1;", "b = 3;", "c = 4;");
        x.ticks(2);
        x.ticks(1);
        int[] draws = new int[3];
        int drawn = seed;
        for (int i = 0; i < 3; i++) {
            drawn = drawn * 1103515245 + 12345;
            draws[i] = drawn >>> 8;
        }
        due.is("drawn(1, " + seed + ")", x.drawn(1, seed), 1);
        int kind = draws[0] % 6;
        due.is("TRANS", x.now(1), kind < 2 ? 4 : 3);
        if (kind < 2) {
            due.is("its SITE", x.trans(3, 0), draws[1] % 2);
            due.is("its writing", x.entry(3, 3), 1 << draws[2] % 3);
        }
        boolean crashes = kind == 2 && draws[2] % 4 == 0;
        // COPY 0 has EXECUTED two of three by now, COPY 1 all of them; who CRASHED has one or two again
        due.is("how(0, 1)", x.how(0, 1), crashes && draws[1] % 2 == 0 ? 0 : 2);
        due.is("how(1, 0)", x.how(1, 0), crashes && draws[1] % 2 == 1 ? 0 : 2);
        due.is("a CHECK", x.now(4), kind == 3 ? 1 : 0);
    }

    private static void odds() {
        AgreedInput x = due.with(TWO_SITES, "a = a + 1;", "b = a;");
        due.is("odds(0, 1)", x.odds(0, 1), NONE);
        due.is("odds(11, 1)", x.odds(11, 1), NONE);
        due.is("odds(LOW, 1)", x.odds(LOW, 1), NONE);
        int[] seeds = {1, 1000, HIGH - 3, LOW, -5};
        for (int seed : seeds) {
            int found = 0;
            for (int i = 0; i < 10; i++) {
                x.drawn(30, seed + i);
                found += x.same();
                x.undo();
            }
            due.is("odds(10, " + seed + ")", x.odds(10, seed), found);
        }
        due.is("now(0)", x.now(0), 0);
        due.is("now(1)", x.now(1), 2);
        // but one TICK is left, in which what is in the ORDER goes
        AgreedInput y = due.with(ONE_SITE);
        for (int i = 0; i < 16; i++) {
            y.ticks(60);
        }
        y.ticks(38);
        Due.submit(y, 0, "a = a + 1;");
        y.ticks(1);
        due.is("same()", y.same(), 0);
        int found = 0;
        for (int i = 0; i < 10; i++) {
            due.is("drawn(30, " + i + ")", y.drawn(30, i), 1);
            found += y.same();
            y.undo();
        }
        due.is("some of them are", found > 0, true);
        due.is("odds(10, 0)", y.odds(10, 0), found);
        // at TICK 1000 no TICK goes by, and nothing is drawn
        for (int i = 0; i < 17; i++) {
            x.ticks(60);
        }
        due.is("odds(10, 1)", x.odds(10, 1), 10);
    }

    private static void book() {
        AgreedInput x = due.with(TWO_SITES, "a = a + 1;");
        due.is("lives 2", Due.book(x, 2, "check;"), -1000);
        due.is("the tape stays", x.count(5), 6);
        due.is("lives -1", x.book(-1), -1000);
        due.is("told(0)", x.told(0), NONE);
        due.is("it is judged", x.book(0), NONE);
        due.is("the tape is empty", x.count(5), 0);
        due.is("all stays as it is", x.now(4), 0);
        due.is("a BOOK of nothing", Due.book(x, 1, ""), NONE);
        due.is("a FAULT", Due.book(x, 1, "check; tick 0;"), -2 - 12);
        due.is("all stays as it is", x.now(4), 0);
        due.is("lived", Due.book(x, 1, "check; put south 0; tick 2; crash spare; tick 1;"), NONE);
        due.is("now(0)", x.now(0), 3);
        due.is("now(1)", x.now(1), 2);
        due.is("now(4)", x.now(4), 0);
        due.is("as far as it is not WRONG", Due.book(x, 1, "tick 4; put north 2; tick 5;"), 1);
        due.is("now(0)", x.now(0), 7);
        String forty = Due.times(40, "tick 1;");
        due.is("40 LINES", Due.book(x, 0, forty), NONE);
        due.is("41 LINES", Due.book(x, 0, forty + "check;"), -2 - 280);
        due.is("fault()", x.fault(), 4);
        due.is("400 bytes", Due.book(x, 0, forty + Due.times(120, " ")), NONE);
        due.is("401 bytes", Due.book(x, 0, forty + Due.times(121, " ")), -402);
        due.is("fault()", x.fault(), 1);
    }

    private static void told() {
        AgreedInput x = due.with(TWO_SITES, "a = a + 1;");
        tells(x, "tick 2; put north 1; tick 1;", 9, 1, 2, 1);
        tells(x, "put north 1;", 9, 0, 0, 0);
        tells(x, "tick 5; put north 0; put south 1;", 0, 3, 5, 1);
        tells(x, "check; check;", 11, 1, 0, 0);
        tells(x, "crash main;", 21, 0, 0, 0);
        tells(x, "tick 1; crash spare;", 21, 1, 1, 0);
        tells(x, "tick 2; crash spare;", 0, 2, 2, 1);
        tells(x, Due.times(16, "tick 60;") + "tick 40; tick 1;", 31, 17, 1000, 1);
        tells(x, Due.times(16, "tick 60;") + "tick 41; tick 1;", 31, 16, 960, 1);
        tells(x, Due.times(23, "put south 0;") + "put north 23; put north 0;", 1, 23, 0, 0);
        tells(x, Due.times(23, "put south 0;") + "tick 2; put north 0;", 1, 24, 2, 24);
        due.is("told(-1)", x.told(-1), NONE);
        due.is("told(4)", x.told(4), NONE);
        due.is("told(HIGH)", x.told(HIGH), NONE);
        Due.book(x, 0, "check");
        due.is("a FAULT leaves it", x.told(0), 1);
        Due.book(x, 3, "check;");
        due.is("-1000 leaves it", x.told(1), 24);
        Due.world(x, "");
        due.is("a new WORLD leaves it", x.told(3), 24);
    }

    private static void tells(AgreedInput x, String book, int... told) {
        due.is("book(0) of " + book, Due.book(x, 0, book), told[0] == 0 ? NONE : told[1]);
        for (int what = 0; what < told.length; what++) {
            due.is("told(" + what + ")", x.told(what), told[what]);
        }
    }

    private static void sentence() {
        AgreedInput x = due.with(TWO_SITES, "a = 1;", "b = 2; need a = 1;");
        x.ticks(2);
        due.is("sentence()", Due.sentence(x, "waiting"), 1);
        due.is("the tape is empty", x.count(5), 0);
        due.is("sentence()", Due.sentence(x, "not (reads a or from north) and place > 3"), 5);
        due.is("a FAULT", Due.sentence(x, "done and"), -1 - 8);
        due.is("it stays", x.said(NONE), 0);
        due.is("sentence()", Due.sentence(x, "reads a"), 1);
        due.is("a FAULT", Due.sentence(x, "done) "), -1 - 4);
        due.is("it stays", x.said(0), 1);
        due.is("nothing", Due.sentence(x, ""), -1);
        due.is("20 ONES", Due.sentence(x, "done" + Due.times(19, " or done")), 20);
        due.is("21", Due.sentence(x, "done" + Due.times(18, " or done") + " and not done"), -1 - 4 - 18 * 8 - 9);
        due.is("fault()", x.fault(), 4);
        due.is("8 within one another", Due.sentence(x, "not (not (not (not done)))"), 8);
        due.is("9", Due.sentence(x, "not (not (not (not (done))))"), -1 - 20);
        due.is("fault()", x.fault(), 4);
        due.is("200 bytes", Due.sentence(x, "done" + Due.times(196, " ")), 1);
        due.is("201 bytes", Due.sentence(x, "done" + Due.times(197, "\n")), -201);
        due.is("fault()", x.fault(), 1);
    }

    private static void said() {
        AgreedInput x = due.with(TWO_SITES, "a = 1;", "need a = 9; b = 2;", "a = c;", "c = 3;");
        Due.submit(x, 1, "need b = 7;");
        due.is("no SENTENCE", x.said(NONE), NONE);
        due.is("no SENTENCE", x.said(0), NONE);
        x.ticks(4);
        // 0 DONE, 1 STOPPED, 2 in the next TICK, 3 waits, 4 waits for none
        due.says(x, "done", 0);
        due.says(x, "stopped", 1);
        due.says(x, "waiting", 2, 3, 4);
        due.says(x, "ready", 2, 4);
        due.says(x, "going");
        due.says(x, "retried");
        due.says(x, "wide", 2);
        due.says(x, "writes a", 0, 2);
        due.says(x, "reads a", 1);
        due.says(x, "from south", 4);
        due.says(x, "place = 3", 3);
        due.says(x, "place < 2", 0, 1);
        due.says(x, "trans > 2", 3, 4);
        due.says(x, "tries = 1", 0, 1, 2, 3, 4);
        due.says(x, "tries > 1");
        due.says(x, "not done", 1, 2, 3, 4);
        due.says(x, "not not done", 0);
        due.says(x, "done or wide and ready", 0, 2);
        due.says(x, "(done or wide) and waiting", 2);
        due.says(x, "place > 0 and (place < 2 or not (waiting)) or from south", 1, 4);
        due.is("said(-2)", x.said(-2), NONE);
        due.is("said(HIGH)", x.said(HIGH), NONE);
        due.is("said(LOW)", x.said(LOW), NONE);
        Due.sentence(x, "going");
        x.ticks(1);
        due.is("of what is so now", x.said(0), 2);
        Due.world(x, TWO_SITES);
        due.is("no SENTENCE", x.said(NONE), NONE);

        AgreedInput y = due.with("site s; key i s 1; key j s 20; epoch 4;", "i = 2;", "at i = 1;");
        y.ticks(6);
        due.says(y, "retried", 1);
        due.says(y, "tries = 2", 1);
        due.is("the other one is not in the ORDER", y.now(3), 1);
    }

    private static void imageAndRestore() {
        AgreedInput x = due.with(TWO_SITES, "a = 1;");
        due.is("restore(0)", x.restore(0), false);
        due.is("restore(1)", x.restore(1), false);
        due.is("image(2)", x.image(2), false);
        due.is("image(-1)", x.image(-1), false);
        due.is("image(HIGH)", x.image(HIGH), false);
        x.ticks(2);
        Due.sentence(x, "waiting");
        due.is("image(0)", x.image(0), true);
        due.is("undo() still can be", x.undo(), 1);
        due.is("now(0)", x.now(0), 0);
        Due.world(x, ONE_SITE);
        Due.submit(x, 0, "b = 4;");
        Due.sentence(x, "done");
        due.is("image(1)", x.image(1), true);
        x.ticks(3);
        Due.book(x, 0, "tick 3;");
        Due.so(x, 0, 1);
        Due.tape(x, "abc");
        due.is("restore(0)", x.restore(0), true);
        due.is("the WORLD", x.count(0), 2);
        due.is("now(0)", x.now(0), 2);
        due.is("how(1, 0)", x.how(1, 0), 0);
        due.is("the SENTENCE", x.said(NONE), 1);
        due.is("the tape stays", x.count(5), 3);
        Due.tape(x, "place < 1 and not writes b");
        x.sentence();
        x.image(0);
        Due.sentence(x, "place > 1 and not writes a");
        x.restore(0);
        due.is("the SENTENCE with its SIGNS", x.said(NONE), 1);
        Due.tape(x, "abc");
        due.is("told() stays", x.told(1), 1);
        due.is("soAt() stays", x.soAt(0), 0);
        due.is("nothing can be undone", x.undo(), NONE);
        x.ticks(4);
        due.is("value(0, 0)", x.value(0, 0), 1);
        due.is("restore(0) again", x.restore(0), true);
        due.is("value(0, 0)", x.value(0, 0), 5);
        due.is("restore(1)", x.restore(1), true);
        due.is("count(0)", x.count(0), 1);
        due.is("now(0)", x.now(0), 0);
        due.is("now(3)", x.now(3), 1);
        x.ticks(2);
        due.is("said(NONE)", x.said(NONE), 1);
        due.is("restore(2)", x.restore(2), false);
        due.is("restore(LOW)", x.restore(LOW), false);
        due.is("undo() of what was done since", x.undo(), 0);
    }

    private static void count() {
        AgreedInput x = due.with(TWO_SITES);
        x.feed(1, 2, 3, 4, 5);
        int[] counts = {2, 3, 2, 2, 3, 20};
        for (int what = 0; what < counts.length; what++) {
            due.is("count(" + what + ")", x.count(what), counts[what]);
        }
        due.is("count(6)", x.count(6), NONE);
        due.is("count(-1)", x.count(-1), NONE);
        due.is("count(LOW)", x.count(LOW), NONE);
    }

    public static void main(String[] args) {
        newObject();
        feed();
        end();
        world();
        fault();
        submit();
        put();
        check();
        crash();
        ticks();
        order();
        arithmetic();
        retried();
        undo();
        now();
        value();
        key();
        trans();
        arrived();
        entry();
        how();
        foreseen();
        asks();
        ready();
        waits();
        serial();
        same();
        chainAndLeast();
        over();
        so();
        ask();
        drawn();
        odds();
        book();
        told();
        sentence();
        said();
        imageAndRestore();
        count();
        due.finish();
    }
}
