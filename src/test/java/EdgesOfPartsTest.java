/** The bounds that the parts "==== 2." and "==== 3." of the document name, and what a new WORLD is. */
public final class EdgesOfPartsTest {
    private static final int NONE = -1;
    private static final int WAITING = 0;
    private static final int GOING = 1;
    private static final int DONE = 2;
    private static final int RETRIED = 3;
    private static final int STOPPED = 4;
    private static final Due due = new Due("EdgesOfPartsTest");
    /** An EPOCH each TICK, one WORKER. */
    private static final String ONE = "site s;key a s 1;key b s 2;key c s 3;copy m 1 first;epoch 1;link 0;";

    private static void values(AgreedInput x, int c, int... wanted) {
        for (int k = 0; k < wanted.length; k++) {
            due.is("value(" + c + ", " + k + ")", x.value(c, k), wanted[k]);
        }
    }

    private static void hows(AgreedInput x, int c, int... wanted) {
        for (int i = 0; i < wanted.length; i++) {
            due.is("how(" + c + ", " + i + ")", x.how(c, i), wanted[i]);
        }
        due.is("how(" + c + ", " + wanted.length + ")", x.how(c, wanted.length), NONE);
    }

    private static void readies(AgreedInput x, int c, int... wanted) {
        for (int i = 0; i < wanted.length; i++) {
            due.is("ready(" + c + ", " + i + ")", x.ready(c, i), wanted[i]);
        }
        due.is("ready(" + c + ", " + wanted.length + ")", x.ready(c, wanted.length), NONE);
    }

    private static String keys(int n, int first) {
        StringBuilder text = new StringBuilder("site s;");
        for (int k = 0; k < n; k++) {
            text.append("key k").append((char) ('a' + k)).append(" s ").append(first).append(';');
        }
        return text.append("epoch 1;link 0;").toString();
    }

    // ---- 'at' and what is FORESEEN

    private static void foreseesOf(int keys, int first, int key) {
        AgreedInput x = due.with(keys(keys, first), "at ka = 5;");
        x.ticks(1);
        due.is("at " + first + " of " + keys, x.foreseen(0, 0), key);
    }

    private static void foreseesBelow0(int keys, int less, int key) {
        AgreedInput x = due.with(keys(keys, 0), "ka = 0 - " + less + ";");
        x.ticks(2);
        Due.submit(x, 0, "at ka = 5;");
        x.ticks(1);
        due.is("at -" + less + " of " + keys, x.foreseen(1, 0), key);
    }

    static void part2_atIsModuloHowManyKeysThereAre() {
        int[] firsts = {0, 1, 2, 3, 4, 5, 6, 998, 999};
        int[] of3 = {0, 1, 2, 0, 1, 2, 0, 2, 0};
        for (int i = 0; i < firsts.length; i++) {
            foreseesOf(3, firsts[i], of3[i]);
            foreseesOf(1, firsts[i], 0);
        }
        foreseesOf(10, 9, 9);
        foreseesOf(10, 10, 0);
        foreseesOf(10, 11, 1);
        foreseesOf(2, 999, 1);
    }

    static void part2_atIsFrom0OnOfAValueBelow0() {
        foreseesBelow0(3, 0, 0);
        foreseesBelow0(3, 1, 2);
        foreseesBelow0(3, 2, 1);
        foreseesBelow0(3, 3, 0);
        foreseesBelow0(3, 4, 2);
        foreseesBelow0(1, 1, 0);
        foreseesBelow0(10, 1, 9);
        foreseesBelow0(10, 9, 1);
        foreseesBelow0(10, 10, 0);
        foreseesBelow0(10, 11, 9);
    }

    static void part2_atOfTheLeastAndTheGreatestInt() {
        String four = "a=a+a+a+a;";
        AgreedInput x = due.with("site s;key a s 512;key b s 0;key c s 0;epoch 1;", four.repeat(5), four.repeat(6));
        x.ticks(3);
        values(x, 0, Integer.MIN_VALUE);
        Due.submit(x, 0, "at a = 7;");
        x.ticks(1);
        due.is("the least modulo 3", x.foreseen(2, 0), 1);
        Due.submit(x, 0, "a = a - 1;");
        x.ticks(2);
        values(x, 0, Integer.MAX_VALUE);
        Due.submit(x, 0, "at a = 8;");
        x.ticks(2);
        due.is("the greatest modulo 3", x.foreseen(4, 0), 1);
        values(x, 0, Integer.MAX_VALUE, 8, 0);
        Due.submit(x, 0, "a = a + 1;");
        x.ticks(2);
        values(x, 0, Integer.MIN_VALUE);
    }

    static void part2_foreseenIsByCopy0WhenItArrives() {
        AgreedInput x = due.with("site s;key a s 1;key b s 7;key c s 7;copy m 1 first;copy n 2 last;epoch 1;", "b = 5;", "a = 2;");
        x.ticks(2);
        values(x, 0, 1);
        values(x, 1, 2);
        Due.submit(x, 0, "at a = 9;");
        x.ticks(1);
        values(x, 0, 2);
        due.is("by VALUES ahead of that TICK", x.foreseen(2, 0), 1);
        Due.submit(x, 0, "at a = 8;");
        x.ticks(1);
        hows(x, 0, DONE, DONE, RETRIED, WAITING, WAITING);
        due.is("entry(3, 0)", x.entry(3, 0), 3);
        due.is("by VALUES behind it", x.foreseen(3, 0), 2);
        due.is("entry(4, 0)", x.entry(4, 0), 2);
        due.is("FORESEEN anew", x.foreseen(4, 0), 2);
    }

    // ---- READS, WRITES, WIDE

    private static void entryOf(String text, int reads, int writes, int wide) {
        // a is 1, so that at a is b; b and c are 2, so that at b and at c are c
        AgreedInput x = due.with("site s;site t;key a s 1;key b s 2;key c t 2;epoch 1;link 0;", text);
        x.ticks(1);
        due.is("READS of " + text, x.entry(0, 2), reads);
        due.is("WRITES of " + text, x.entry(0, 3), writes);
        due.is("WIDE of " + text, x.entry(0, 4), wide);
    }

    static void part2_itWritesWhatIsAheadOfIsAndReadsTheOthers() {
        entryOf("a = 1;", 0, 1, 0);
        entryOf("a = b;", 2, 1, 0);
        entryOf("need a = 1;", 1, 0, 0);
        entryOf("need b < a;", 3, 0, 0);
        entryOf("a = 1; b = 2; c = 3;", 0, 7, 1);
    }

    static void part2_aKeyOfBothIsOneThatItWrites() {
        entryOf("a = a + 1;", 0, 1, 0);
        entryOf("need a = 1; a = 2;", 0, 1, 0);
        entryOf("a = 2; need a = 2;", 0, 1, 0);
        entryOf("a = b; b = a;", 0, 3, 0);
        entryOf("need b > at a; a = 1;", 2, 1, 0);
    }

    static void part2_keysBehindAnAtAreRead() {
        entryOf("at a = 5;", 1, 2, 0);
        entryOf("at b = 5;", 2, 4, 1);
        entryOf("at c = 5;", 0, 4, 0);
        entryOf("b = at a;", 1, 2, 0);
        entryOf("a = at b;", 6, 1, 1);
        entryOf("need at a > 1;", 3, 0, 0);
        entryOf("need at c > 1;", 4, 0, 0);
    }

    static void part2_termsBehindPlusAndMinusAreRead() {
        entryOf("a = 1 + b;", 2, 1, 0);
        entryOf("a = 1 - b;", 2, 1, 0);
        entryOf("a = 1 - c + b;", 6, 1, 1);
        entryOf("a = 1 + 2 + 3 - c;", 4, 1, 1);
        entryOf("c = b - a - 1;", 3, 4, 1);
        entryOf("a = a - b;", 2, 1, 0);
        entryOf("c = 1 - at a;", 3, 4, 1);
        entryOf("a = 0 - at c;", 4, 1, 1);
    }

    static void part2_keysBehindEachAtAreRead() {
        entryOf("c = at a + at b;", 3, 4, 1);
        entryOf("c = at b + at a;", 3, 4, 1);
        entryOf("a = at c; a = at b;", 6, 1, 1);
        entryOf("at a = at b;", 5, 2, 1);
        entryOf("at b = at a;", 3, 4, 1);
        entryOf("b = at a; b = at c; b = at c;", 5, 2, 1);
        entryOf("need at a = 1; at b = 1;", 3, 4, 1);
    }

    static void part2_eachEntryHasItsOwnForeseenKeys() {
        // at a is b, at b is c, at c is a
        AgreedInput x = due.with("site s;key a s 1;key b s 2;key c s 3;epoch 1;", "need at a = 1;", "need at b = 1;", "need at c = 1;",
            "need at a = at b;", "need b = 1; need at c = 1;", "at c = 1; need at b = 1;");
        x.ticks(1);
        int[] reads = {3, 6, 5, 7, 7, 6};
        int[][] foreseen = {{1}, {2}, {0}, {1, 2}, {0}, {0, 2}};
        for (int i = 0; i < reads.length; i++) {
            due.is("READS of " + i, x.entry(i, 2), reads[i]);
            due.is("WRITES of " + i, x.entry(i, 3), i == 5 ? 1 : 0);
            for (int j = 0; j < foreseen[i].length; j++) {
                due.is("foreseen(" + i + ", " + j + ")", x.foreseen(i, j), foreseen[i][j]);
            }
            due.is("foreseen(" + i + ") behind them", x.foreseen(i, foreseen[i].length), NONE);
        }
    }

    static void part2_wideIsOfMoreThanOneSite() {
        entryOf("a = b;", 2, 1, 0);
        entryOf("a = c;", 4, 1, 1);
        entryOf("c = a;", 1, 4, 1);
        entryOf("need c = a;", 5, 0, 1);
        entryOf("c = c + 1;", 0, 4, 0);
        entryOf("a = 1; c = 1;", 0, 5, 1);
    }

    // ---- EPOCHS

    static void part2_epochEndsWhereTheNextTickIsDivided() {
        int[] epochs = {1, 2, 3, 19, 20};
        for (int epoch : epochs) {
            AgreedInput x = due.with("site s;key a s 1;epoch " + epoch + ";", "a = 2;");
            if (epoch > 1) {
                x.ticks(epoch - 1);
                due.is("none ahead of " + epoch, x.now(2), 0);
            }
            x.ticks(1);
            due.is("at " + epoch, x.now(2), 1);
            Due.submit(x, 0, "a = 3;");
            if (epoch > 1) {
                x.ticks(epoch - 1);
                due.is("none ahead of twice " + epoch, x.now(2), 1);
            }
            x.ticks(1);
            due.is("at twice " + epoch, x.now(2), 2);
        }
    }

    static void part2_epochGoesSiteBySiteAsTheyArrived() {
        AgreedInput x = due.with("site s;site t;site u;key a s 1;epoch 2;");
        int[] sites = {2, 1, 0, 2, 0, 1};
        for (int s : sites) {
            Due.submit(x, s, "a = 1;");
        }
        x.ticks(2);
        int[] wanted = {2, 4, 1, 5, 0, 3};
        for (int i = 0; i < wanted.length; i++) {
            due.is("entry(" + i + ", 0)", x.entry(i, 0), wanted[i]);
            due.is("entry(" + i + ", 1)", x.entry(i, 1), i / 2);
        }
    }

    private static void entry(AgreedInput x, int i, int... wanted) {
        for (int what = 0; what < wanted.length; what++) {
            due.is("entry(" + i + ", " + what + ")", x.entry(i, what), wanted[what]);
        }
        due.is("trans(" + wanted[0] + ", 3)", x.trans(wanted[0], 3), i);
    }

    private static void asking(AgreedInput x, int k, int... wanted) {
        for (int i = 0; i < wanted.length; i++) {
            due.is("asks(0, " + k + ", " + i + ")", x.asks(0, k, i), wanted[i]);
        }
        due.is("asks(0, " + k + ", " + wanted.length + ")", x.asks(0, k, wanted.length), NONE);
    }

    /** The ORDER is 1, 3, 0, 2 of those that arrived. */
    private static AgreedInput notAsTheyArrived() {
        AgreedInput x = due.with("site s;site t;key a s 1;key b t 2;key c t 0;copy m 1 first;epoch 3;link 2;");
        Due.submit(x, 1, "need at a < b;");
        Due.submit(x, 0, "a = at b;");
        Due.submit(x, 1, "c = 5;");
        Due.submit(x, 0, "need c = 0;");
        x.ticks(3);
        return x;
    }

    static void part2_theOrderIsNotAsTheyArrived() {
        AgreedInput x = notAsTheyArrived();
        entry(x, 0, 1, 0, 6, 1, 1, 0);
        entry(x, 1, 3, 0, 4, 0, 0, 0);
        entry(x, 2, 0, 1, 3, 0, 1, 1);
        entry(x, 3, 2, 1, 0, 4, 0, 2);
        int[] foreseen = {2, NONE, 1, NONE};
        int[] waits = {0, 0, 1, 2};
        for (int i = 0; i < 4; i++) {
            due.is("foreseen(" + i + ", 0)", x.foreseen(i, 0), foreseen[i]);
            due.is("waits(0, " + i + ")", x.waits(0, i), waits[i]);
        }
        asking(x, 0, 1, 4);
        asking(x, 1, 0, 4);
        asking(x, 2, 0, 2, 7);
        readies(x, 0, 0, 1);
        due.says(x, "wide", 0, 2);
        due.says(x, "reads c", 0, 1);
        due.says(x, "writes c", 3);
        due.says(x, "writes a", 0);
        due.says(x, "from t", 2, 3);
        due.says(x, "trans < 2", 0, 2);
        due.says(x, "ready", 0, 1);
    }

    static void part2_itGoesByTheOrder() {
        AgreedInput x = notAsTheyArrived();
        due.is("chain()", x.chain(), 2);
        due.is("least()", x.least(), 6);
        due.is("serial(0)", x.serial(0), 0);
        due.is("serial(2)", x.serial(2), 5);
        x.ticks(1);
        hows(x, 0, GOING, WAITING, WAITING, WAITING);
        asking(x, 2, 0, 2, 7);
        x.ticks(1);
        hows(x, 0, GOING, DONE, WAITING, WAITING);
        asking(x, 2, 0, 7);
        x.ticks(1);
        hows(x, 0, DONE, DONE, GOING, WAITING);
        values(x, 0, 0, 2, 0);
        asking(x, 0, 4);
        asking(x, 1, 4);
        asking(x, 2, 7);
        readies(x, 0, 3);
        x.ticks(1);
        hows(x, 0, DONE, DONE, GOING, DONE);
        values(x, 0, 0, 2, 5);
        x.ticks(1);
        hows(x, 0, DONE, DONE, RETRIED, DONE);
        due.is("now(3)", x.now(3), 1);
        due.is("arrived(1, 0)", x.arrived(1, 0), 0);
        due.says(x, "tries = 2", 2);
        due.says(x, "tries = 1", 0, 1, 3);
        due.says(x, "done", 0, 1, 3);
        due.says(x, "retried", 2);
        due.says(x, "place < 2", 0, 1);
        due.says(x, "place = 2 and trans = 0 or place = 3 and writes c", 2, 3);
        x.ticks(1);
        due.is("entry(4, 0)", x.entry(4, 0), 0);
        due.is("foreseen(4, 0)", x.foreseen(4, 0), 0);
        due.is("entry(4, 2)", x.entry(4, 2), 3);
        due.is("trans(0, 3)", x.trans(0, 3), 4);
    }

    /** 24 TRANS, of which so many are RETRIED once, so that there are 24 ENTRIES and so many. */
    private static AgreedInput retriedOnce(int number) {
        AgreedInput x = due.with("site s;key i s 0;key j s 0;copy m 4 first;epoch 1;link 0;", "i = 1;", "need at i = 0;", "need j = 0;");
        for (int n = 3; n < 24; n++) {
            x.put(0, n < number + 2 ? 1 : 2);
        }
        x.ticks(60);
        return x;
    }

    static void part2_orderHas40EntriesAtMost() {
        int[][] wanted = {{15, 39, 0}, {16, 40, 0}, {17, 40, 1}, {18, 40, 2}};
        for (int[] w : wanted) {
            AgreedInput x = retriedOnce(w[0]);
            due.is("ENTRIES of the ORDER", x.now(2), w[1]);
            due.is("others", x.now(3), w[2]);
            due.is("they stay where they arrived", x.arrived(0, 0), w[2] > 0 ? 18 : NONE);
            due.is("the second", x.arrived(0, 1), w[2] > 1 ? 19 : NONE);
            due.is("how(0, 39)", x.how(0, 39), w[1] > 39 ? DONE : NONE);
            due.is("how(0, 40)", x.how(0, 40), NONE);
            due.is("over()", x.over(), w[2] > 0 ? NONE : 0);
            x.ticks(60);
            due.is("others still", x.now(3), w[2]);
        }
    }

    static void part2_theOthersStaySiteBySite() {
        // the one of SITE 1 is RETRIED ahead of 16 of SITE 0, but there is room for these alone
        AgreedInput x = due.with("site s;site t;key i s 0;key j s 0;copy m 4 last;epoch 20;link 0;", "i = 1;");
        Due.submit(x, 1, "need at i = 0;");
        for (int n = 2; n < 18; n++) {
            x.put(0, 1);
        }
        Due.submit(x, 0, "need j = 0;");
        for (int n = 19; n < 24; n++) {
            x.put(0, 18);
        }
        x.ticks(39);
        due.is("now(2)", x.now(2), 24);
        due.is("now(3)", x.now(3), 17);
        due.is("arrived(1, 0)", x.arrived(1, 0), 1);
        due.is("the last one of SITE 0 arrived first", x.arrived(0, 0), 17);
        x.ticks(1);
        due.is("now(2)", x.now(2), 40);
        due.is("now(3)", x.now(3), 1);
        due.is("arrived(1, 0)", x.arrived(1, 0), 1);
        due.is("entry(24, 0)", x.entry(24, 0), 17);
        due.is("entry(39, 0)", x.entry(39, 0), 2);
    }

    // ---- who has a KEY

    static void part2_aKeyIsHadIfNobodyIsAheadOrAllRead() {
        AgreedInput x = due.with(ONE, "need a = 1;", "b = a;", "a = 2;", "need a = 2;", "a = 3;", "c = b;");
        x.ticks(1);
        int[] asking = {0, 2, 5, 6, 9, NONE};
        for (int i = 0; i < asking.length; i++) {
            due.is("asks(0, 0, " + i + ")", x.asks(0, 0, i), asking[i]);
        }
        // 3 READS behind one who WRITES; 5 has c, but not b
        readies(x, 0, 0, 1);
        x.ticks(1);
        readies(x, 0, 1);
        x.ticks(1);
        readies(x, 0, 2, 5);
        x.ticks(1);
        readies(x, 0, 3, 5);
        x.ticks(1);
        readies(x, 0, 4, 5);
        x.ticks(1);
        readies(x, 0, 5);
        x.ticks(1);
        readies(x, 0);
        due.is("none asks any more", x.asks(0, 0, 0), NONE);
        values(x, 0, 3, 1, 1);
    }

    // ---- EXECUTED

    static void part2_retriedArrivesOnceMoreOfCopy0Alone() {
        AgreedInput x = due.with("site s;key i s 1;key j s 20;key k s 30;copy m 1 first;copy n 4 first;epoch 1;", "k = 1;", "i = 2;", "at i = 5;");
        x.ticks(3);
        hows(x, 1, DONE, DONE, RETRIED);
        hows(x, 0, DONE, DONE, WAITING);
        due.is("none by COPY 1", x.trans(2, 2), 1);
        due.is("now(3)", x.now(3), 0);
        x.ticks(1);
        hows(x, 0, DONE, DONE, RETRIED, WAITING);
        due.is("one by COPY 0", x.trans(2, 2), 2);
        due.is("foreseen(3, 0)", x.foreseen(3, 0), 2);
        x.crash(0);
        x.crash(1);
        x.ticks(3);
        hows(x, 0, DONE, DONE, RETRIED, WAITING);
        hows(x, 1, DONE, DONE, RETRIED, DONE);
        due.is("the first time alone", x.trans(2, 2), 2);
        due.is("now(3)", x.now(3), 0);
        x.ticks(1);
        values(x, 0, 2, 20, 5);
        due.is("same()", x.same(), 1);
    }

    static void part2_eachEntryMayBeRetriedOnce() {
        AgreedInput x = due.with("site s;site t;key i s 1;key j s 20;key k s 30;copy m 1 first;epoch 4;", "i = 2;");
        Due.submit(x, 1, "at i = 5;");
        x.ticks(6);
        hows(x, 0, DONE, RETRIED);
        due.is("arrived(1, 0)", x.arrived(1, 0), 1);
        Due.submit(x, 0, "i = 1;");
        x.ticks(4);
        hows(x, 0, DONE, RETRIED, DONE, RETRIED);
        due.is("a third ENTRY of it", x.trans(1, 2), 3);
        x.ticks(3);
        hows(x, 0, DONE, RETRIED, DONE, RETRIED, DONE);
        values(x, 0, 1, 5, 30);
    }

    static void part2_whoWasRetriedArrivesNoMoreBehindACrash() {
        AgreedInput x = due.with("site s;key i s 1;key j s 20;key k s 30;copy m 1 first;epoch 1;link 0;", "i = 2;", "at i = 5;");
        x.ticks(4);
        hows(x, 0, DONE, RETRIED, DONE);
        // the numbers of a TRANS and of its ENTRY, as it arrived, are not the same any more
        Due.submit(x, 0, "i = 0;");
        Due.submit(x, 0, "at i = 7;");
        x.ticks(4);
        int[] went = {DONE, RETRIED, DONE, DONE, RETRIED, DONE};
        hows(x, 0, went);
        values(x, 0, 7, 20, 5);
        for (int crashes = 0; crashes < 3; crashes++) {
            x.crash(0);
            x.ticks(9);
            hows(x, 0, went);
            values(x, 0, 7, 20, 5);
            due.is("ENTRIES that arrived", x.now(3), 0);
            due.is("ENTRIES of TRANS 1", x.trans(1, 2), 2);
            due.is("ENTRIES of TRANS 3", x.trans(3, 2), 2);
        }
    }

    static void part2_anAtIsTheOneThatWasForeseen() {
        // the STEP ahead makes the index another one, but what counts are VALUES ahead of the ENTRY
        AgreedInput x = due.with(ONE, "a = 2; at a = 50; c = at a;");
        x.ticks(2);
        hows(x, 0, DONE);
        values(x, 0, 2, 50, 50);
    }

    static void part2_allAreIntsWrapping() {
        String four = "a=a+a+a+a;";
        AgreedInput x = due.with("site s;key a s 512;key b s 0;epoch 1;", four.repeat(5), four.repeat(5) + "a=a+a-1;", "a = a + 1;",
            "a = a - 1;", "b = 0 - a - 2;", "b = b - 1;");
        x.ticks(2);
        values(x, 0, 1 << 19);
        x.ticks(1);
        values(x, 0, (1 << 30) - 1);
        Due.submit(x, 0, "a = a + a + 1;");
        x.ticks(1);
        values(x, 0, 1 << 30);
        x.ticks(2);
        values(x, 0, (1 << 30) - 1, -(1 << 30) - 1);
        x.ticks(2);
        values(x, 0, Integer.MAX_VALUE);
        Due.submit(x, 0, "a = a + 1;");
        x.ticks(2);
        values(x, 0, Integer.MIN_VALUE);
        Due.submit(x, 0, "b = 0 - a; a = a - 1;");
        x.ticks(2);
        values(x, 0, Integer.MAX_VALUE, Integer.MIN_VALUE);
    }

    private static void need(int a, String sign, int term, boolean isSo) {
        AgreedInput x = due.with("site s;key a s " + a + ";key b s " + term + ";epoch 1;", "need a " + sign + " b;",
            "need a " + sign + " " + term + ";");
        x.ticks(3);
        int how = isSo ? DONE : STOPPED;
        hows(x, 0, how, how);
    }

    static void part2_needIsSoOrItIsStopped() {
        need(5, "<", 4, false);
        need(5, "<", 5, false);
        need(5, "<", 6, true);
        need(5, "=", 4, false);
        need(5, "=", 5, true);
        need(5, "=", 6, false);
        need(5, ">", 4, true);
        need(5, ">", 5, false);
        need(5, ">", 6, false);
        // below 0
        AgreedInput x = due.with(ONE, "a = 0 - 1;", "need a < 0;", "need a > 0;", "b = 0 - 2; need b < a;");
        x.ticks(5);
        hows(x, 0, DONE, DONE, STOPPED, DONE);
    }

    static void part2_nothingOfAStoppedOneIsWritten() {
        AgreedInput x = due.with(ONE, "a = 9; b = 9; need a = 8; c = 9;", "a = 9; b = 9; c = 9; need a < 9;", "need a > 1; a = 9;", "need a = 1;");
        x.ticks(4);
        hows(x, 0, STOPPED, STOPPED, STOPPED, WAITING);
        values(x, 0, 1, 2, 3);
        due.is("it asks for no KEY any more", x.asks(0, 0, 0), 6);
        x.ticks(1);
        hows(x, 0, STOPPED, STOPPED, STOPPED, DONE);
    }

    static void part2_whatStepsGaveGoesAheadOfValues() {
        AgreedInput x = due.with(ONE, "a = 9; b = a + 1; need b = 10; a = b; c = a + b; need a = 10;");
        x.ticks(2);
        hows(x, 0, DONE);
        values(x, 0, 10, 10, 20);
    }

    // ---- a TICK

    static void part2_ticksAre0To999() {
        AgreedInput x = due.with(ONE);
        due.is("TICK 0", x.now(0), 0);
        due.ticksTo(x, 999);
        Due.submit(x, 0, "a = 5;");
        due.is("the last one", x.ticks(1), 1);
        due.is("now(0)", x.now(0), 1000);
        due.is("its EPOCH ends", x.now(2), 1);
        due.is("all are over", x.ticks(1), 0);
        due.is("all are over", x.ticks(60), 0);
        due.is("all are over", x.drawn(1, 3), 0);
        due.is("now(0)", x.now(0), 1000);
        hows(x, 0, WAITING);
        due.is("TICK 1000 no matter", x.over(), 1);
    }

    static void part2_anEpochEndsAtTick1000IfItIsDivided() {
        int[][] wanted = {{20, 1}, {8, 1}, {3, 0}, {19, 0}};
        for (int[] w : wanted) {
            AgreedInput x = due.with("site s;key a s 1;epoch " + w[0] + ";");
            due.ticksTo(x, 999);
            Due.submit(x, 0, "a = 5;");
            x.ticks(1);
            due.is("ENTRIES at TICK 1000 by " + w[0], x.now(2), w[1]);
        }
    }

    static void part2_wideOnesGoForLinkTicks() {
        for (int link = 0; link <= 9; link++) {
            AgreedInput x = due.with("site s;site t;key a s 1;key b t 2;epoch 1;link " + link + ";", "a = b;");
            due.is("over() with 'link' " + link, x.over(), 2 + link);
            x.ticks(1);
            hows(x, 0, WAITING);
            x.ticks(1);
            hows(x, 0, link > 0 ? GOING : DONE);
            if (link > 0) {
                due.is("who is GOING still asks", x.asks(0, 0, 0), 1);
                if (link > 1) {
                    x.ticks(link - 1);
                    hows(x, 0, GOING);
                }
                values(x, 0, 1);
                x.ticks(1);
                hows(x, 0, DONE);
            }
            values(x, 0, 2);
        }
        AgreedInput y = due.with("site s;site t;key a s 1;key b t 2;epoch 1;link 9;", "a = 3;");
        y.ticks(2);
        hows(y, 0, DONE);
    }

    private static void taken(String copy, int... done) {
        AgreedInput x = due.with(keys(5, 0) + "copy m " + copy + ";", "ka = 1;", "kb = 1;", "kc = 1;", "kd = 1;", "ke = 1;");
        x.ticks(2);
        hows(x, 0, done);
    }

    static void part2_workersTakeAsManyAsThereAre() {
        taken("1 first", 2, 0, 0, 0, 0);
        taken("2 first", 2, 2, 0, 0, 0);
        taken("3 first", 2, 2, 2, 0, 0);
        taken("4 first", 2, 2, 2, 2, 0);
        taken("1 last", 0, 0, 0, 0, 2);
        taken("2 last", 0, 0, 0, 2, 2);
        taken("3 last", 0, 0, 2, 2, 2);
        taken("4 last", 0, 2, 2, 2, 2);
        // fewer are READY than there are WORKERS
        AgreedInput x = due.with("site s;key a s 1;key b s 2;copy m 4 last;epoch 1;", "a = 3;", "a = 4;", "b = 5;");
        x.ticks(2);
        hows(x, 0, DONE, WAITING, DONE);
    }

    static void part2_theFirstOneFirstOrTheLastOneFirst() {
        String[] orders = {"first", "last"};
        for (String order : orders) {
            AgreedInput x = due.with("site s;key i s 0;key j s 0;copy m 2 " + order + ";epoch 3;", "i = 1;", "need at i = 0;", "need at i = 0;");
            x.ticks(5);
            hows(x, 0, DONE, RETRIED, RETRIED);
            due.is(order + " arrived first", x.arrived(0, 0), order.equals("first") ? 1 : 2);
            due.is(order + " arrived second", x.arrived(0, 1), order.equals("first") ? 2 : 1);
        }
    }

    static void part2_readyNowIsBehindThoseWhoWentAheadOfThoseTaken() {
        AgreedInput x = due.with("site s;site t;key a s 1;key b t 2;copy m 4 first;epoch 1;link 2;", "a = b;", "a = 5;", "a = 6;");
        x.ticks(3);
        hows(x, 0, GOING, WAITING, WAITING);
        x.ticks(1);
        hows(x, 0, DONE, DONE, WAITING);
        values(x, 0, 5);
        x.ticks(1);
        hows(x, 0, DONE, DONE, DONE);
    }

    static void part2_whoIsGoingTakesNoWorkerAnyMore() {
        AgreedInput x = due.with("site s;site t;key a s 1;key b s 2;key c t 3;copy m 1 first;epoch 1;link 9;", "a = c;", "b = c;");
        x.ticks(2);
        hows(x, 0, GOING, WAITING);
        x.ticks(1);
        hows(x, 0, GOING, GOING);
        x.ticks(8);
        hows(x, 0, DONE, GOING);
        x.ticks(1);
        hows(x, 0, DONE, DONE);
    }

    // ---- CHECKS

    static void part2_aCheckTakesAKeyATickAndIsOverWithTheLast() {
        int[] numbers = {1, 2, 10};
        for (int keys : numbers) {
            AgreedInput x = due.with(keys(keys, 7));
            x.check();
            due.is("none TAKEN at first", x.now(6), 0);
            for (int k = 1; k < keys; k++) {
                x.ticks(1);
                due.is("TAKEN", x.now(6), (1 << k) - 1);
                due.is("it is on", x.now(4), 1);
                due.is("one is on", x.check(), 1);
            }
            x.ticks(1);
            due.is("it is over", x.now(4), 0);
            due.is("now(5)", x.now(5), NONE);
            due.is("now(6)", x.now(6), 0);
            due.is("now(8)", x.now(8), 0);
            due.is("another can be", x.check(), 0);
        }
    }

    static void part2_aCheckAwaitsAllAheadOfItsPointInCopy0() {
        AgreedInput x = due.with("site s;key a s 1;key b s 2;copy m 1 first;copy n 4 first;epoch 1;", "a = 5;", "a = 6;", "a = 7;");
        x.ticks(1);
        x.check();
        due.is("POINT", x.now(5), 3);
        Due.submit(x, 0, "a = 8;");
        x.ticks(2);
        hows(x, 0, DONE, DONE, WAITING, WAITING);
        due.is("nothing TAKEN", x.now(6), 0);
        x.ticks(1);
        hows(x, 0, DONE, DONE, DONE, WAITING);
        due.is("in the TICK of the last of them", x.now(6), 1);
        due.is("COPY 1 may be behind", x.crash(1), 0);
        x.ticks(1);
        due.is("it is over", x.now(4), 0);
        due.is("POINT of the CHECKPOINT", x.now(8), 3);
        due.is("key(0, 2)", x.key(0, 2), 7);
        due.is("key(1, 2)", x.key(1, 2), 2);
    }

    static void part2_whoIsGoingAheadOfThePointIsAwaited() {
        AgreedInput x = due.with("site s;site t;key a s 1;key b t 2;epoch 1;link 2;", "a = b;");
        x.ticks(1);
        x.check();
        x.ticks(2);
        hows(x, 0, GOING);
        due.is("nothing TAKEN", x.now(6), 0);
        x.ticks(1);
        hows(x, 0, DONE);
        due.is("now(6)", x.now(6), 1);
    }

    static void part2_aTwinIsOfAWriteThatIsNotAheadOfThePoint() {
        AgreedInput x = due.with(ONE, "a = 10;");
        x.ticks(1);
        x.check();
        due.is("POINT", x.now(5), 1);
        Due.submit(x, 0, "a = 20; b = 20; c = 20;");
        x.ticks(1);
        // ENTRY 0 is ahead of POINT
        due.is("no TWIN", x.now(7), 0);
        due.is("a is TAKEN", x.now(6), 1);
        Due.submit(x, 0, "c = 30;");
        x.ticks(1);
        // ENTRY 1 is at POINT; a is TAKEN
        due.is("TWINS", x.now(7), 6);
        due.throwsNoSuch("key(0, 3)", () -> x.key(0, 3));
        due.is("key(1, 3)", x.key(1, 3), 2);
        due.is("key(2, 3)", x.key(2, 3), 3);
        due.is("b is TAKEN", x.now(6), 3);
        // ENTRY 2 writes a KEY that has a TWIN, which stays
        x.ticks(1);
        values(x, 0, 20, 20, 30);
        due.is("it is over", x.now(4), 0);
        int[] checkpoint = {10, 2, 3};
        for (int k = 0; k < 3; k++) {
            due.is("key(" + k + ", 2)", x.key(k, 2), checkpoint[k]);
        }
        due.throwsNoSuch("no TWIN without a CHECK", () -> x.key(2, 3));
        due.is("now(7)", x.now(7), 0);
    }

    static void part2_aTwinStaysWhenItIsWrittenOnceMore() {
        AgreedInput x = due.with(keys(4, 7), "kd = 1;", "kd = 2;");
        x.check();
        x.ticks(2);
        due.is("key(3, 3)", x.key(3, 3), 7);
        x.ticks(1);
        values(x, 0, 7, 7, 7, 2);
        due.is("key(3, 3)", x.key(3, 3), 7);
        due.is("now(7)", x.now(7), 8);
        x.ticks(1);
        due.is("key(3, 2)", x.key(3, 2), 7);
    }

    static void part2_noTwinOfWhatIsNotWritten() {
        // STOPPED, RETRIED, of COPY 1 alone
        AgreedInput x = due.with(keys(6, 1) + "copy m 1 first;copy n 4 last;", "kf = 9; need ka = 0;", "kd = 0;", "ke = 9;", "ka = 0;");
        x.check();
        x.ticks(2);
        hows(x, 0, STOPPED, WAITING, WAITING, WAITING);
        hows(x, 1, STOPPED, DONE, DONE, WAITING);
        due.is("no TWIN", x.now(7), 0);
        x.ticks(1);
        due.is("kd has one", x.now(7), 8);
        x.ticks(1);
        due.is("ke has one", x.now(7), 24);
        AgreedInput y = due.with("site s;key a s 1;key b s 2;key c s 3;key d s 4;epoch 1;", "a = 2;", "at a = 9;");
        y.ticks(1);
        y.ticks(1);
        y.check();
        y.ticks(1);
        hows(y, 0, DONE, RETRIED, WAITING);
        due.is("no TWIN", y.now(7), 0);
    }

    static void part2_aTwinIsAlsoOfAWriteOfTheSameValue() {
        AgreedInput x = due.with(keys(3, 7), "kc = 7;");
        x.check();
        x.ticks(2);
        due.is("now(7)", x.now(7), 4);
        due.is("key(2, 3)", x.key(2, 3), 7);
    }

    static void part2_aCheckThatIsOnIsWhyNot() {
        AgreedInput x = due.with(ONE, "a = 5;");
        due.is("check()", x.check(), 0);
        x.ticks(2);
        String ahead = Look.of(x);
        due.is("check()", x.check(), 1);
        due.is("all stays", Look.of(x), ahead);
        due.is("its POINT", x.now(5), 0);
    }

    static void part2_aCheckWithoutKeysIsTheCheckpointAtOnce() {
        AgreedInput x = due.with("site s;epoch 1;");
        for (int i = 0; i < 2; i++) {
            due.is("check()", x.check(), 0);
            due.is("now(4)", x.now(4), 0);
            due.is("now(5)", x.now(5), NONE);
            due.is("now(8)", x.now(8), 0);
        }
        AgreedInput y = due.with(keys(1, 7));
        y.check();
        due.is("with one it is not", y.now(4), 1);
    }

    // ---- CRASHES

    static void part2_aCrashNeedsAnEntryOfTheOrder() {
        AgreedInput x = due.with("site s;key a s 1;epoch 2;", "a = 5;");
        due.is("none", x.crash(0), 1);
        x.ticks(1);
        String ahead = Look.of(x);
        due.is("it arrived, but is not in the ORDER", x.crash(0), 1);
        due.is("all stays", Look.of(x), ahead);
        x.ticks(1);
        due.is("it is", x.crash(0), 0);
    }

    static void part2_aCrashAheadOfACheckpointGoesBackToTheBeginning() {
        AgreedInput x = due.with(ONE, "a = 5;", "b = 6;");
        x.ticks(3);
        values(x, 0, 5, 6, 3);
        due.is("crash(0)", x.crash(0), 0);
        values(x, 0, 1, 2, 3);
        hows(x, 0, WAITING, WAITING);
        due.is("it asks anew", x.asks(0, 0, 0), 1);
        readies(x, 0, 0, 1);
        due.is("the TICK", x.now(0), 3);
        due.is("the ORDER", x.now(2), 2);
    }

    static void part2_entriesAheadOfThePointWentAsInCopy0() {
        AgreedInput x = due.with("site s;key i s 1;key j s 20;key k s 30;copy m 4 first;copy n 1 first;epoch 1;", "i = 2;", "at i = 5;", "need k = 0;");
        // COPY 0: DONE, RETRIED, STOPPED; the one RETRIED goes anew behind them
        x.ticks(2);
        x.check();
        due.is("POINT", x.now(5), 3);
        x.ticks(1);
        hows(x, 0, DONE, RETRIED, STOPPED, WAITING);
        x.ticks(2);
        due.is("POINT of the CHECKPOINT", x.now(8), 3);
        hows(x, 0, DONE, RETRIED, STOPPED, DONE);
        hows(x, 1, DONE, RETRIED, STOPPED, DONE);
        values(x, 0, 2, 20, 5);
        x.crash(0);
        hows(x, 0, DONE, RETRIED, STOPPED, WAITING);
        values(x, 0, 2, 20, 30);
        due.is("who asks", x.asks(0, 2, 0), 7);
        due.is("another COPY stays", x.how(1, 3), DONE);
        x.ticks(1);
        values(x, 0, 2, 20, 5);
        due.is("same()", x.same(), 1);
    }

    static void part2_aCrashedCopyMayComeToBeAheadByACheckpoint() {
        AgreedInput x = due.with("site s;key a s 1;key b s 2;copy m 4 first;copy n 1 first;epoch 1;", "a = 5;", "need a = 1;", "b = 6;", "b = 7;");
        x.ticks(1);
        x.check();
        x.ticks(3);
        due.is("POINT of the CHECKPOINT", x.now(8), 4);
        hows(x, 0, DONE, STOPPED, DONE, DONE);
        hows(x, 1, DONE, STOPPED, DONE, WAITING);
        x.crash(1);
        hows(x, 1, DONE, STOPPED, DONE, DONE);
        values(x, 1, 5, 7);
        due.is("same()", x.same(), 1);
    }

    static void part2_aCrashOfCopy0GivesUpACheck() {
        AgreedInput x = due.with(ONE, "a = 5;");
        x.ticks(2);
        x.check();
        x.ticks(1);
        int[] on = {1, 1, 1, 0, 0};
        int[] off = {0, NONE, 0, 0, 0};
        for (int what = 4; what <= 8; what++) {
            due.is("now(" + what + ") ahead", x.now(what), on[what - 4]);
        }
        x.crash(0);
        for (int what = 4; what <= 8; what++) {
            due.is("now(" + what + ") behind", x.now(what), off[what - 4]);
        }
        due.is("another can be", x.check(), 0);
        due.is("nothing TAKEN", x.now(6), 0);
    }

    static void part2_aCrashOfAnotherCopyLeavesACheck() {
        AgreedInput x = due.with(ONE + "copy n 1 first;", "a = 5;", "c = 6;");
        x.ticks(2);
        x.check();
        due.is("POINT", x.now(5), 2);
        x.crash(1);
        due.is("it is on", x.now(4), 1);
        x.ticks(1);
        due.is("and goes on", x.now(6), 1);
    }

    static void part2_aCrashAheadOfThePointOfACheckThatIsOn() {
        // what counts is the CHECKPOINT, not the CHECK that is on
        AgreedInput x = due.with(ONE + "copy n 1 first;", "a = 5;");
        x.ticks(2);
        x.check();
        x.ticks(2);
        due.is("two TAKEN", x.now(6), 3);
        x.crash(1);
        hows(x, 1, WAITING);
        values(x, 1, 1, 2, 3);
        x.ticks(1);
        due.is("now(8)", x.now(8), 1);
        x.crash(1);
        hows(x, 1, DONE);
        values(x, 1, 5, 2, 3);
    }

    static void part2_whoWasGoingWaitsBehindACrash() {
        AgreedInput x = due.with("site s;site t;key a s 1;key b t 2;epoch 1;link 3;", "a = b;");
        x.ticks(4);
        hows(x, 0, GOING);
        x.crash(0);
        hows(x, 0, WAITING);
        readies(x, 0, 0);
        x.ticks(1);
        hows(x, 0, GOING);
        x.ticks(2);
        hows(x, 0, GOING);
        x.ticks(1);
        hows(x, 0, DONE);
    }

    // ---- PUT

    static void part2_aPutNeedsLessThan24Trans() {
        AgreedInput x = due.with("site s;site t;key a s 1;key b s 2;epoch 20;", "at a = b + 1; need a < 9; b = 3;");
        for (int n = 1; n < 23; n++) {
            due.is("put()", x.put(n % 2, 0), 0);
        }
        due.is("23", x.now(1), 23);
        due.is("the last one", x.put(1, 22), 0);
        due.is("24", x.now(1), 24);
        String ahead = Look.of(x).substring(0, 200);
        due.is("there are 24", x.put(1, 0), 1);
        due.is("there are 24", x.put(0, 23), 1);
        due.is("all stays", Look.of(x).substring(0, 200), ahead);
        due.is("now(3)", x.now(3), 24);
        due.is("its SITE", x.trans(23, 0), 1);
        due.is("its STEPS", x.trans(23, 1), 3);
        due.is("its 'at'", x.trans(23, 4), 1);
    }

    // ---- SERIAL, SAME, CONFLICTS, CHAIN, LEAST

    static void part3_serialIsFromValuesAsToldOn() {
        AgreedInput x = due.with(ONE);
        for (int k = 0; k < 3; k++) {
            due.is("without ENTRIES", x.serial(k), k + 1);
        }
        Due.submit(x, 0, "a = a + 1;");
        due.is("none in the ORDER", x.serial(0), 1);
        x.ticks(1);
        due.is("in the ORDER", x.serial(0), 2);
        x.ticks(1);
        due.is("not from VALUES as they are", x.serial(0), 2);
        Due.submit(x, 0, "b = 9; need a = 1;");
        Due.submit(x, 0, "a = a + 1;");
        x.ticks(1);
        due.is("what is STOPPED gives nothing", x.serial(1), 2);
        due.is("serial(0)", x.serial(0), 3);
    }

    static void part3_serialOfOneThatIsRetriedGivesNothing() {
        AgreedInput x = due.with(ONE, "a = 2;", "at a = 50;");
        x.ticks(1);
        int[] wanted = {2, 2, 3};
        for (int k = 0; k < 3; k++) {
            due.is("serial(" + k + ")", x.serial(k), wanted[k]);
        }
        x.ticks(2);
        due.is("the one asked anew", x.serial(2), 50);
    }

    static void part3_sameIsAllExecutedInAllCopies() {
        AgreedInput x = due.with(ONE + "copy n 2 first;");
        due.is("without ENTRIES", x.same(), 1);
        Due.submit(x, 0, "a = 5;");
        Due.submit(x, 0, "b = 5;");
        due.is("none in the ORDER", x.same(), 1);
        x.ticks(1);
        due.is("none EXECUTED", x.same(), 0);
        x.ticks(1);
        due.is("one in COPY 0, all in COPY 1", x.same(), 0);
        x.ticks(1);
        due.is("all in both", x.same(), 1);
        x.crash(1);
        due.is("none in COPY 1", x.same(), 0);
        x.ticks(1);
        due.is("all in both", x.same(), 1);
    }

    private static void conflict(String first, String second, int number) {
        AgreedInput x = due.with(ONE, first, second);
        x.ticks(1);
        due.is(first + " and " + second, x.entry(1, 5), number);
        due.is("chain() of " + first + " and " + second, x.chain(), number + 1);
        due.is("waits() of " + first + " and " + second, x.waits(0, 1), number);
    }

    static void part3_entriesConflictIfOneWritesWhatTheOtherHas() {
        conflict("need a = 1;", "need a = 1;", 0);
        conflict("need a = 1;", "a = 1;", 1);
        conflict("a = 1;", "need a = 1;", 1);
        conflict("a = 1;", "a = 1;", 1);
        conflict("a = 1;", "b = 1;", 0);
        conflict("a = b;", "c = b;", 0);
        conflict("a = b;", "b = c;", 1);
        conflict("a = b;", "c = a;", 1);
        conflict("a = b; c = b;", "need a = 1; need c = 1;", 1);
    }

    static void part3_chainIsTheLongestRow() {
        AgreedInput x = due.with(ONE);
        due.is("without any", x.chain(), 0);
        Due.submit(x, 0, "a = 1;");
        due.is("none in the ORDER", x.chain(), 0);
        x.ticks(1);
        due.is("one", x.chain(), 1);
        Due.submit(x, 0, "b = 1;");
        Due.submit(x, 0, "c = 1;");
        x.ticks(1);
        due.is("three without a CONFLICT", x.chain(), 1);
        Due.submit(x, 0, "a = b + c;");
        x.ticks(1);
        due.is("behind any of them", x.chain(), 2);
        Due.submit(x, 0, "c = a;");
        x.ticks(9);
        due.is("of all, EXECUTED or not", x.chain(), 3);
    }

    static void part3_chainOf40() {
        AgreedInput x = due.with("site s;key i s 0;key j s 0;copy m 4 first;epoch 1;link 0;", "i = 1 - i; at i = at i;");
        for (int n = 1; n < 24; n++) {
            x.put(0, 0);
        }
        x.ticks(60);
        x.ticks(60);
        due.is("the ORDER is full", x.now(2), 40);
        due.is("chain()", x.chain(), 40);
        due.is("least()", x.least(), 40);
        due.is("entry(39, 5)", x.entry(39, 5), 39);
    }

    static void part3_leastCountsWideOnesWithLink() {
        for (int link = 0; link <= 9; link++) {
            String world = "site s;site t;key a s 1;key b t 2;key c s 3;epoch 1;link " + link + ";";
            AgreedInput x = due.with(world);
            due.is("without any", x.least(), 0);
            Due.submit(x, 0, "a = b;");
            due.is("none in the ORDER", x.least(), 0);
            x.ticks(1);
            due.is("one that is WIDE", x.least(), link + 1);
            Due.submit(x, 0, "a = a + 1;");
            Due.submit(x, 0, "c = 1;");
            x.ticks(1);
            due.is("and one that is not", x.least(), link + 2);
            Due.submit(x, 0, "b = a;");
            x.ticks(1);
            due.is("and one that is", x.least(), 2 * link + 3);
        }
    }

    static void part3_leastMayBeOfAShorterRow() {
        // one WIDE one of 10, three of one SITE
        AgreedInput x = due.with("site s;site t;key a s 1;key b t 2;key c s 3;epoch 1;link 9;", "a = b;", "c = 1;", "c = 2;", "c = 3;");
        x.ticks(1);
        due.is("chain()", x.chain(), 3);
        due.is("least()", x.least(), 10);
    }

    // ---- OVER

    static void part3_overIs0WhereAllIsExecuted() {
        AgreedInput x = due.with("site s;key a s 1;copy m 1 first;copy n 1 first;epoch 3;");
        due.is("nothing has arrived", x.over(), 0);
        Due.submit(x, 0, "a = 5;");
        due.is("it is not in the ORDER", x.over(), 4);
        x.ticks(3);
        due.is("it is not EXECUTED", x.over(), 1);
        x.ticks(1);
        due.is("it is", x.over(), 0);
        x.crash(1);
        due.is("not in COPY 1", x.over(), 1);
        due.is("all stays as it is", x.now(0), 4);
    }

    static void part3_overNeedsWhatArrivesAnew() {
        AgreedInput x = due.with("site s;key i s 1;key j s 2;key k s 3;epoch 5;", "i = 2;", "at i = 50;");
        // 5 TICKS, 2 are EXECUTED; 3 more till the EPOCH ends, and one
        due.is("over()", x.over(), 11);
        x.ticks(7);
        due.is("one arrived anew", x.now(3), 1);
        due.is("over()", x.over(), 4);
    }

    static void part3_overDoesNotMindTick1000() {
        AgreedInput x = due.with("site s;site t;key a s 1;key b t 2;epoch 7;link 9;");
        due.ticksTo(x, 1000);
        due.is("nothing", x.over(), 0);
        Due.submit(x, 0, "a = b;");
        // the EPOCH ends at 1001, then it is taken and goes
        due.is("over()", x.over(), 1 + 1 + 9);
        due.is("now(0)", x.now(0), 1000);
    }

    // ---- SO, ASK

    static void part3_soTakes1To6Pairs() {
        AgreedInput x = due.with(ONE);
        due.is("none", Due.so(x), NONE);
        due.is("half of one", Due.so(x, 0), NONE);
        due.is("1", Due.so(x, 0, 1), 1);
        due.is("one and a half", Due.so(x, 0, 1, 1), NONE);
        due.is("6", Due.so(x, 0, 1, 1, 2, 2, 3, 0, 1, 1, 2, 2, 3), 1);
        due.is("6 and a half", Due.so(x, 0, 1, 1, 2, 2, 3, 0, 1, 1, 2, 2, 3, 0), NONE);
        due.is("7", Due.so(x, 0, 1, 1, 2, 2, 3, 0, 1, 1, 2, 2, 3, 0, 1), NONE);
        due.is("the last one is another", Due.so(x, 0, 1, 1, 2, 2, 3, 0, 1, 1, 2, 2, 4), 0);
        due.is("the last KEY", Due.so(x, 2, 3), 1);
        due.is("one behind", Due.so(x, 3, 3), NONE);
        due.is("byte 255", Due.so(x, 255, 3), NONE);
        due.is("no such KEY in the last pair", Due.so(x, 0, 1, 3, 0), NONE);
        due.is("a KEY twice, unlike", Due.so(x, 0, 1, 0, 2), 0);
    }

    static void part3_soIsBehind0ToAllEntries() {
        AgreedInput x = due.with(ONE);
        due.is("behind 0 of 0", Due.so(x, 0, 1), 1);
        due.is("soAt(0)", x.soAt(0), 0);
        for (int n = 0; n < 3; n++) {
            Due.submit(x, 0, n == 1 ? "a = 7;" : "b = b;");
        }
        due.is("arrived ones do not count", Due.so(x, 0, 1), 1);
        x.ticks(1);
        due.is("a is 1 behind 0, 1", Due.so(x, 0, 1), 2);
        due.is("soAt(0)", x.soAt(0), 0);
        due.is("soAt(1)", x.soAt(1), 1);
        due.is("a is 7 behind 2, 3", Due.so(x, 0, 7), 2);
        due.is("soAt(0)", x.soAt(0), 2);
        due.is("soAt(1)", x.soAt(1), 3);
        due.is("b is 2 behind all", Due.so(x, 1, 2), 4);
    }

    static void part3_soValuesAreBytes0To255() {
        AgreedInput x = due.with("site s;key a s 0;epoch 1;", "a = 255;", "a = 256;", "a = 0 - 1;", "a = 511;", "a = 0 - 256;");
        x.ticks(1);
        due.is("0: behind 0 alone", Due.so(x, 0, 0), 1);
        due.is("soAt(0)", x.soAt(0), 0);
        due.is("255: behind 1 alone", Due.so(x, 0, 255), 1);
        due.is("soAt(0)", x.soAt(0), 1);
        due.is("254", Due.so(x, 0, 254), 0);
    }

    static void part3_askIsTheFirstOfLikeOnes() {
        AgreedInput x = due.with(ONE);
        Due.so(x, 0, 1);
        due.is("of one number all KEYS are like", x.ask(), 0);
        Due.submit(x, 0, "b = 9; c = 9;");
        x.ticks(1);
        Due.so(x, 0, 1);
        due.is("b and c have 2 VALUES, a 1", x.ask(), 1);
        Due.submit(x, 0, "c = 10;");
        x.ticks(1);
        Due.so(x, 0, 1);
        due.is("c has 3", x.ask(), 2);
        Due.submit(x, 0, "b = 10;");
        Due.submit(x, 0, "a = 5;");
        x.ticks(1);
        // behind 0 to 3: b 2 9 9 10, c 3 9 10 10: two at most are alike
        Due.so(x, 0, 1);
        due.is("the first again", x.ask(), 1);
        // behind 4 alone
        Due.so(x, 0, 5);
        due.is("of one number", x.ask(), 0);
    }

    // ---- as many of all as there may be

    /** 3 SITES, 10 KEYS, which are 0, 10, .. 90 at first, 3 COPIES. */
    private static AgreedInput wide() {
        StringBuilder text = new StringBuilder("site s;site t;site u;");
        for (int k = 0; k < 10; k++) {
            text.append("key k").append((char) ('a' + k)).append(' ').append("stu".charAt(k % 3)).append(' ').append(10 * k).append(';');
        }
        return due.with(text.append("copy m 1 first;copy n 4 last;copy o 2 last;epoch 1;link 1;").toString());
    }

    static void part2_worldOf10KeysAnd3Copies() {
        AgreedInput x = wide();
        Due.submit(x, 0, "kj = kj + 5;");
        Due.submit(x, 1, "ki = kj + ka; kj = 7;");
        Due.submit(x, 2, "need kj = 7; kb = kj + ki; at kb = 3;");
        // kb is 10 when it arrives: its 'at' is ka
        x.ticks(1);
        due.is("foreseen(2, 0)", x.foreseen(2, 0), 0);
        due.is("READS", x.entry(2, 2), 1 << 9 | 1 << 8);
        due.is("WRITES", x.entry(2, 3), 3);
        for (int c = 0; c < 3; c++) {
            due.is("asks(" + c + ", 9, 0)", x.asks(c, 9, 0), 1);
            due.is("asks(" + c + ", 9, 1)", x.asks(c, 9, 1), 3);
            due.is("asks(" + c + ", 9, 2)", x.asks(c, 9, 2), 4);
            due.is("asks(" + c + ", 9, 3)", x.asks(c, 9, 3), NONE);
            due.is("same()", x.same(), 0);
        }
        int[] behind = {3, 102, 20, 30, 40, 50, 60, 70, 95, 7};
        for (int k = 0; k < 10; k++) {
            due.is("serial(" + k + ")", x.serial(k), behind[k]);
        }
        due.is("over()", x.over(), 4);
        x.ticks(4);
        due.is("same()", x.same(), 1);
        for (int c = 0; c < 3; c++) {
            values(x, c, behind);
        }
        for (int c = 2; c >= 0; c--) {
            x.crash(c);
            values(x, c, 0, 10, 20, 30, 40, 50, 60, 70, 80, 90);
            due.is("same() behind it", x.same(), 0);
        }
        x.ticks(5);
        due.is("same()", x.same(), 1);
        for (int c = 0; c < 3; c++) {
            values(x, c, behind);
        }
    }

    static void part2_aCheckOf10Keys() {
        AgreedInput x = wide();
        Due.submit(x, 0, "kj = kj + 5;");
        x.ticks(2);
        x.check();
        Due.submit(x, 0, "kj = 1; kb = 1;");
        for (int taken = 1; taken < 10; taken++) {
            x.ticks(1);
            due.is("TAKEN", x.now(6), (1 << taken) - 1);
            // it is GOING for a TICK; kb was TAKEN ahead of that
            due.is("TWINS", x.now(7), taken < 3 ? 0 : 1 << 9);
        }
        due.is("key(9, 3)", x.key(9, 3), 95);
        due.is("key(9, 2)", x.key(9, 2), 90);
        x.ticks(1);
        due.is("it is over", x.now(4), 0);
        due.is("POINT", x.now(8), 1);
        for (int k = 0; k < 10; k++) {
            due.is("key(" + k + ", 2)", x.key(k, 2), k == 9 ? 95 : 10 * k);
        }
        x.crash(2);
        values(x, 2, 0, 10, 20, 30, 40, 50, 60, 70, 80, 95);
        hows(x, 2, DONE, WAITING);
    }

    static void part3_soAndAskOf10Keys() {
        AgreedInput x = wide();
        for (int n = 0; n < 4; n++) {
            Due.submit(x, 0, n < 2 ? "kj = kj + 1;" : "kj = kj - 1; ki = 5;");
        }
        x.ticks(1);
        due.is("ka was 0 behind all", Due.so(x, 0, 0), 5);
        due.is("kj had 3 VALUES", x.ask(), 9);
        due.is("kj was 91 behind 1, 3", Due.so(x, 9, 91), 2);
        due.is("soAt(0)", x.soAt(0), 1);
        due.is("soAt(1)", x.soAt(1), 3);
        due.is("ki was 80, 5", x.ask(), 8);
        due.is("all that there may be", Due.so(x, 9, 92, 8, 80, 7, 70, 2, 20, 1, 10, 0, 0), 1);
        due.is("soAt(0)", x.soAt(0), 2);
        due.is("there is no KEY 10", Due.so(x, 10, 0), NONE);
        AgreedInput y = due.with(keys(10, 1), "ka = ka;", "kj = kj;");
        y.ticks(1);
        due.is("all KEYS have one VALUE", Due.so(y, 0, 1), 3);
        due.is("the first of like ones", y.ask(), 0);
    }

    static void part2_anOrderOf40() {
        AgreedInput x = retriedOnce(16);
        due.is("now(2)", x.now(2), 40);
        due.is("same()", x.same(), 1);
        due.is("serial(0)", x.serial(0), 1);
        due.is("how(0, 1)", x.how(0, 1), RETRIED);
        int tick = x.now(0);
        x.crash(0);
        for (int i = 0; i < 40; i++) {
            due.is("how(0, " + i + ") behind a crash", x.how(0, i), WAITING);
        }
        due.is("asks(0, 0, 0)", x.asks(0, 0, 0), 1);
        due.is("over() of 4 WORKERS", x.over(), 10);
        x.ticks(10);
        due.is("same()", x.same(), 1);
        due.is("none arrived once more", x.now(3), 0);
        x.check();
        due.is("POINT", x.now(5), 40);
        x.ticks(2);
        due.is("POINT of the CHECKPOINT", x.now(8), 40);
        x.image(1);
        x.crash(0);
        due.is("the TICK", x.now(0), tick + 12);
        for (int i = 0; i < 40; i++) {
            due.is("how(0, " + i + ") by the CHECKPOINT", x.how(0, i), i == 1 || i > 2 && i < 18 ? RETRIED : DONE);
        }
        due.is("same()", x.same(), 1);
        values(x, 0, 1, 0);
        due.is("undo()", x.undo() >= 0, true);
        due.is("restore(1)", x.restore(1), true);
        due.is("how(0, 39)", x.how(0, 39), DONE);
        due.is("so behind all", Due.so(x, 1, 0), 41);
        due.is("i was 0 behind none", Due.so(x, 0, 0), 1);
    }

    // ---- DRAWN

    private static int next(int seed) {
        return seed * 1103515245 + 12345;
    }

    private static int draw(int seed, int n) {
        return (seed >>> 8) % n;
    }

    static void part3_drawnWithoutSitesOrTransDrawsNothingMore() {
        int[] kinds = new int[6];
        for (int seed = -40; seed < 40; seed++) {
            // two TICKS with one draw each, if the first is 0, 1, 4 or 5
            int first = draw(next(seed), 6);
            int second = draw(next(next(seed)), 6);
            if (first == 2 || first == 3) {
                continue;
            }
            kinds[first]++;
            AgreedInput x = due.with(keys(4, 1));
            due.is("drawn(2, " + seed + ")", x.drawn(2, seed), 2);
            due.is("a CHECK in the second TICK alone, " + seed, x.now(6), second == 3 ? 1 : 0);
            AgreedInput none = new AgreedInput();
            due.is("without SITES", none.drawn(2, seed), 2);
            due.is("now(1)", none.now(1), 0);
        }
        due.is("0 was drawn", kinds[0] > 0, true);
        due.is("1 was drawn", kinds[1] > 0, true);
    }

    static void part3_drawnPutsOfAllSitesAndTrans() {
        int[] seen = new int[2];
        for (int seed = 0; seed < 60; seed++) {
            AgreedInput x = due.with("site s;site t;site u;key a s 1;epoch 20;", "a = 1;", "a = 2; a = 3;");
            x.drawn(1, seed);
            int one = next(seed);
            int kind = draw(one, 6);
            due.is("TRANS by " + seed, x.now(1), kind < 2 ? 3 : 2);
            if (kind < 2) {
                seen[kind]++;
                due.is("its SITE by " + seed, x.trans(2, 0), draw(next(one), 3));
                due.is("its STEPS by " + seed, x.trans(2, 1), 1 + draw(next(next(one)), 2));
            }
        }
        due.is("0 and 1 were drawn", seen[0] > 0 && seen[1] > 0, true);
    }

    static void part3_drawnAtTheBoundsOfWhatCanBe() {
        // 24 TRANS, none in the ORDER, a CHECK that is on: nothing can be, but all draws are made
        int seen = 0;
        for (int seed = 0; seed < 60; seed++) {
            AgreedInput x = due.with(keys(10, 1).replace("epoch 1", "epoch 20"), "ka = 1;");
            for (int n = 1; n < 24; n++) {
                x.put(0, 0);
            }
            x.check();
            x.drawn(2, seed);
            due.is("TRANS", x.now(1), 24);
            due.is("the CHECK goes on", x.now(6), 3);
            due.is("its POINT", x.now(5), 0);
            due.is("ENTRIES", x.now(2), 0);
            due.is("ENTRIES that arrived", x.now(3), 24);
            due.is("ENTRIES of the first", x.trans(0, 2), 1);
            seen++;
        }
        due.is("seeds", seen, 60);
    }

    static void part3_drawnCrashesBy0Of4Alone() {
        int crashes = 0;
        int others = 0;
        for (int seed = 0; seed < 200; seed++) {
            int one = next(seed);
            if (draw(one, 6) != 2) {
                continue;
            }
            AgreedInput x = due.with("site s;key a s 1;copy m 1 first;copy n 1 first;copy o 1 first;epoch 1;", "a = 5;", "a = 6;");
            x.ticks(3);
            x.drawn(1, seed);
            int copy = draw(next(one), 3);
            int four = draw(next(next(one)), 4);
            for (int c = 0; c < 3; c++) {
                // who CRASHED has EXECUTED the first again in that TICK
                due.is("value(" + c + ", 0) by " + seed, x.value(c, 0), four == 0 && copy == c ? 5 : 6);
            }
            crashes += four == 0 ? 1 : 0;
            others += four == 0 ? 0 : 1;
        }
        due.is("both were drawn", crashes > 0 && others > 0, true);
    }

    static void part3_drawnSeedsWrap() {
        int[] seeds = {Integer.MAX_VALUE, Integer.MIN_VALUE, -1, 0, 1};
        for (int seed : seeds) {
            AgreedInput x = due.with(keys(3, 1), "ka = ka + 1;");
            due.is("drawn(10, " + seed + ")", x.drawn(10, seed), 10);
            int trans = 1;
            int now = seed;
            for (int t = 0; t < 10; t++) {
                now = next(now);
                int kind = draw(now, 6);
                if (kind < 2) {
                    trans++;
                }
                if (kind < 3) {
                    now = next(next(now));
                }
            }
            due.is("TRANS", x.now(1), trans);
        }
    }

    // ---- a new WORLD

    static void part3_aNewWorldBeginsAnew() {
        AgreedInput x = due.with(ONE + "copy n 1 first;", "a = 9;", "b = 9;");
        x.ticks(2);
        x.check();
        x.ticks(3);
        x.check();
        Due.sentence(x, "done");
        Due.so(x, 1, 2);
        Due.book(x, 0, "tick 1;check;");
        due.is("so much is so", x.now(8), 2);
        due.is("world()", Due.world(x, ONE), 7);
        AgreedInput fresh = due.with(ONE);
        Due.so(fresh, 1, 2);
        int[] told = {11, 1, 6, 2};
        for (int what = 0; what < 4; what++) {
            due.is("what was told stays: told(" + what + ")", x.told(what), told[what]);
        }
        due.is("soAt(1) stays", x.soAt(1), 1);
        due.is("ask() stays", x.ask(), 0);
        due.is("no SENTENCE", x.said(NONE), NONE);
        due.is("nothing can be undone", x.undo(), NONE);
        Due.so(x, 1, 2);
        Due.book(x, 0, "");
        Due.book(fresh, 0, "");
        due.is("all is as in a new object", Look.of(x), Look.of(fresh));
    }

    public static void main(String[] args) {
        Cases.run(EdgesOfPartsTest.class, due);
        due.finish();
    }
}
