/** The bounds that "Terms" names: of TOKENS, of a WORLD, a TRANS, a BOOK, a SENTENCE, and of FAULTS. */
public final class EdgesOfTermsTest {
    private static final Due due = new Due("EdgesOfTermsTest");
    private static final String WORLD = "site s;site t;key a s 1;key b t 2;copy m 2 first;copy n 1 last;epoch 1;link 2;";
    /** All WORDS that the four texts have. */
    private static final String[] WORDS = {"site", "key", "copy", "first", "last", "epoch", "link", "need", "at", "put", "check",
        "crash", "tick", "or", "and", "not", "waiting", "going", "done", "retried", "stopped", "ready", "wide", "reads", "writes",
        "from", "place", "tries", "trans"};

    private interface Reading {
        int read(AgreedInput x, String text);
    }

    private static int submitOf(AgreedInput x, String text) {
        return Due.submit(x, 1, text);
    }

    private static int bookOf(AgreedInput x, String text) {
        return Due.book(x, 1, text);
    }

    /** An object of which much is so, was told, and can be undone. */
    private static AgreedInput busy() {
        AgreedInput x = due.with(WORLD);
        Due.submit(x, 0, "a = b;");
        Due.submit(x, 1, "need b = 2; b = 3;");
        x.image(0);
        x.ticks(2);
        x.check();
        Due.sentence(x, "waiting or going");
        Due.so(x, 0, 1);
        Due.book(x, 0, "tick 3; crash m; put s 5;");
        x.put(1, 1);
        return x;
    }

    /** That a text is refused, how, and that all else stays as it was. */
    private static void refuses(Reading reading, int below, String text, int kind, int place) {
        String call = "of '" + text + "': ";
        AgreedInput x = busy();
        due.is(call + "the answer", reading.read(x, text), below - place);
        due.is(call + "fault()", x.fault(), kind);
        due.is(call + "the tape", x.count(5), 0);
        due.is(call + "what stays", Look.through(x), Look.through(busy()));
    }

    private static void worldFails(String text, int kind, int place) {
        refuses(Due::world, -1, text, kind, place);
    }

    private static void transFails(String text, int kind, int place) {
        refuses(EdgesOfTermsTest::submitOf, -2, text, kind, place);
    }

    private static void bookFails(String text, int kind, int place) {
        refuses(EdgesOfTermsTest::bookOf, -2, text, kind, place);
    }

    private static void sentenceFails(String text, int kind, int place) {
        refuses(Due::sentence, -1, text, kind, place);
    }

    private static void takes(Reading reading, String text, int answer) {
        String call = "of '" + text + "': ";
        AgreedInput x = busy();
        due.is(call + "the answer", reading.read(x, text), answer);
        due.is(call + "fault()", x.fault(), 0);
        due.is(call + "the tape", x.count(5), 0);
    }

    private static void worldIs(String text, int lines) {
        takes(Due::world, text, lines);
    }

    private static void transIs(String text, int steps, int ats) {
        takes(EdgesOfTermsTest::submitOf, text, 3);
        AgreedInput x = busy();
        submitOf(x, text);
        due.is("STEPS of '" + text + "'", x.trans(3, 1), steps);
        due.is("'at' of '" + text + "'", x.trans(3, 4), ats);
    }

    private static void bookIs(String text, int wrong) {
        takes(EdgesOfTermsTest::bookOf, text, wrong);
    }

    private static void sentenceIs(String text, int ones) {
        takes(Due::sentence, text, ones);
    }

    // ---- TOKENS

    static void terms_blanksAre32And10() {
        worldIs("site\ns ;\n \nkey  a\ns\n5 ; ", 2);
        worldIs(" \n ", 0);
        transIs("\na\n=\n1\n;\n", 1, 0);
        bookIs(" check\n;", 0);
        sentenceIs("\n( done )\n", 2);
        char[] others = {0, 9, 11, 12, 13, 31, 33, 127, 160, 255};
        for (char c : others) {
            worldFails("site" + c + "s;", 1, 4);
            transFails("a" + c + "= 1;", 1, 1);
            bookFails("tick" + c + "1;", 1, 4);
            sentenceFails("not" + c + "done", 1, 3);
        }
    }

    static void terms_blanksMayBeLeftOut() {
        worldIs("site s;key a s 5;copy m 1 first;epoch 3;link 1;", 5);
        transIs("a=b+1-at a;need b<3;", 2, 1);
        bookIs("tick 1;tick 1;", -1);
        sentenceIs("(done)or(not(going))and place<3", 7);
        worldFails("sites;", 1, 0);
        transFails("needb<3;", 3, 0);
        bookFails("tick1;", 1, 0);
        sentenceFails("notdone", 1, 0);
    }

    static void terms_wordsAreSmallLetters() {
        worldIs("site a;site z;site az;", 3);
        char[] others = {'A', 'Z', '`', '{', '@', '[', '_', 'a' + 128};
        for (char c : others) {
            worldFails("site " + c + ";", 1, 5);
            worldFails("site a" + c + ";", 1, 6);
        }
    }

    static void terms_wordsAreOf1To7Letters() {
        worldIs("site a;", 1);
        worldIs("site abcdefg;", 1);
        worldFails("site ;", 1, 5);
        worldFails("site abcdefgh;", 1, 5);
        transFails("abcdefg = 1;", 3, 0);
        transFails("abcdefgh = 1;", 1, 0);
        worldIs("site abcdefg;site abcdeff;site bcdefg;", 3);
        worldFails("site abcdefg;site abcdefg;", 3, 18);
    }

    static void terms_numbersAreOf1To3Digits() {
        worldIs("link 0;", 1);
        worldIs("link 09;", 1);
        worldIs("link 009;", 1);
        worldFails("link 0009;", 1, 5);
        worldFails("link ;", 1, 5);
        transIs("a = 0 + 00 + 000 + 999;", 1, 0);
        transFails("a = 1000;", 1, 4);
        transFails("a = 0000;", 1, 4);
        bookFails("tick 0001;", 1, 5);
        sentenceFails("place = 0001", 1, 8);
        sentenceIs("place = 001", 1);
        char[] others = {'/', ':'};
        for (char c : others) {
            worldFails("link " + c + ";", 1, 5);
            worldFails("link 0" + c + ";", 1, 6);
        }
    }

    static void terms_wordsAndNumbersGoOnTogether() {
        worldFails("epoch 5a;", 1, 6);
        worldFails("epoch a5;", 1, 6);
        worldFails("site s1;", 1, 5);
        worldFails("site 1s;", 1, 5);
        worldFails("site s;key a s 5epoch 3;", 1, 15);
        worldIs("site s;key a s 5;epoch 3;", 3);
        transFails("a = 5b;", 1, 4);
        bookFails("tick 5tick;", 1, 5);
        sentenceFails("place<5or done", 1, 6);
        sentenceIs("place<5 or done", 2);
        // eight signs that are letters and digits are no TOKEN, from the first one on
        worldFails("site abcdefg1;", 1, 5);
        worldFails("site 1abcdefg;", 1, 5);
        worldFails("epoch 12a;", 1, 6);
    }

    static void terms_signs() {
        transIs("a=b+1-b;need a<1;need a=1;need a>1;", 4, 0);
        sentenceIs("(place<1)", 2);
        char[] none = {'.', '*', '/', ',', ':', '?', '!', '[', ']', '{', '}', '_', '~', '"', '\'', '#'};
        for (char c : none) {
            worldFails("site s" + c, 1, 6);
            transFails("a" + c + "1;", 1, 1);
            bookFails("check" + c, 1, 5);
            sentenceFails("done" + c, 1, 4);
        }
        // a TOKEN that can't come there
        char[] signs = {';', '<', '=', '>', '+', '-', '(', ')', '.'};
        for (char c : signs) {
            worldFails("site " + c, 1, 5);
            transFails("" + c, 1, 0);
            bookFails("" + c, 1, 0);
            sentenceFails("not done " + c, 1, 9);
        }
    }

    // ---- a WORLD

    static void terms_worldHas900BytesAtMost() {
        String full = WORLD + Due.times(900 - WORLD.length(), " ");
        worldIs(full, 8);
        worldFails(full + " ", 1, 900);
        worldFails(full + "site u;", 1, 900);
        worldIs(Due.times(900 - WORLD.length(), "\n") + WORLD, 8);
        worldFails(Due.times(901 - WORLD.length(), "\n") + WORLD, 1, 900);
        worldIs(Due.times(900, " "), 0);
        worldFails(Due.times(901, " "), 1, 900);
        worldFails(Due.times(940, " "), 1, 900);
    }

    static void terms_worldMayBeEmpty() {
        worldIs("", 0);
        AgreedInput x = busy();
        Due.world(x, "");
        int[] counts = {0, 0, 1, 5, 2, 0};
        for (int what = 0; what < counts.length; what++) {
            due.is("count(" + what + ")", x.count(what), counts[what]);
        }
    }

    static void terms_worldEndsBehindALineAlone() {
        String text = "site s;key a s 1;copy c 1 first;epoch 1;link 1;";
        worldIs(text, 5);
        int[] ends = {4, 6, 10, 12, 14, 16, 21, 23, 25, 31, 37, 39, 44, 46};
        for (int end : ends) {
            worldFails(text.substring(0, end), 1, end);
        }
        worldIs(text.substring(0, 7), 1);
        worldIs(text.substring(0, 17), 2);
        worldIs(text.substring(0, 32), 3);
        worldIs(text.substring(0, 40), 4);
        worldFails(text + ";", 1, text.length());
        worldFails(";", 1, 0);
    }

    static void terms_worldHas3SitesAtMost() {
        worldIs("site p;site q;site r;", 3);
        AgreedInput x = due.with("site p;site q;site r;key a r 1;");
        due.is("count(0)", x.count(0), 3);
        due.is("SITE 2", Due.submit(x, 2, "a = 1;"), 0);
        due.is("SITE 3", Due.submit(x, 3, "a = 1;"), -1000);
        worldFails("site p;site q;site r;site u;", 4, 21);
        worldFails("site p;site q;site r;site p;", 4, 21);
    }

    private static String keys(int n) {
        StringBuilder text = new StringBuilder("site s;");
        for (int k = 0; k < n; k++) {
            text.append("key k").append((char) ('a' + k)).append(" s ").append(k).append(';');
        }
        return text.toString();
    }

    static void terms_worldHas10KeysAtMost() {
        worldIs(keys(9), 10);
        worldIs(keys(10), 11);
        AgreedInput x = due.with(keys(10));
        due.is("count(1)", x.count(1), 10);
        due.is("value(0, 9)", x.value(0, 9), 9);
        due.throwsNoSuch("value(0, 10)", () -> x.value(0, 10));
        worldFails(keys(11), 4, keys(10).length());
        worldFails(keys(10) + "key", 4, keys(10).length());
    }

    static void terms_worldHas3CopiesAtMost() {
        String three = "copy k 1 first;copy l 2 last;copy m 3 first;";
        worldIs(three, 3);
        AgreedInput x = due.with("site s;key a s 7;" + three);
        due.is("count(2)", x.count(2), 3);
        due.is("value(2, 0)", x.value(2, 0), 7);
        due.throwsNoSuch("value(3, 0)", () -> x.value(3, 0));
        worldFails(three + "copy n 1 first;", 4, three.length());
    }

    static void terms_worldNumbersEachSortFrom0() {
        AgreedInput x = due.with("site p;copy k 1 first;site q;key a q 4;copy l 4 last;site r;key b r 5;key c p 6;");
        int[] sites = {1, 2, 0};
        for (int k = 0; k < 3; k++) {
            due.is("key(" + k + ", 0)", x.key(k, 0), sites[k]);
            due.is("value(1, " + k + ")", x.value(1, k), 4 + k);
        }
        Due.submit(x, 2, "a = 1;");
        due.is("arrived(2, 0)", x.arrived(2, 0), 0);
    }

    static void terms_worldKeyBeginsWith0To999() {
        worldIs("site s;key a s 0;", 2);
        worldIs("site s;key a s 999;", 2);
        AgreedInput x = due.with("site s;key a s 0;key b s 999;");
        due.is("value(0, 0)", x.value(0, 0), 0);
        due.is("value(0, 1)", x.value(0, 1), 999);
        worldFails("site s;key a s 1000;", 1, 15);
        worldFails("site s;key a s -1;", 1, 15);
    }

    static void terms_worldCopyHas1To4Workers() {
        for (int n = 1; n <= 4; n++) {
            worldIs("copy m " + n + " first;", 1);
            worldIs("copy m " + n + " last;", 1);
        }
        worldFails("copy m 0 first;", 2, 7);
        worldFails("copy m 5 first;", 2, 7);
        worldFails("copy m 999 last;", 2, 7);
        worldFails("copy m first;", 1, 7);
        worldFails("copy m 1;", 1, 8);
        worldFails("copy m 1 next;", 1, 9);
        worldFails("copy m 1 done;", 1, 9);
        worldFails("copy m 1 first last;", 1, 15);
    }

    static void terms_worldEpochIs1To20() {
        int[] good = {1, 2, 19, 20};
        for (int n : good) {
            worldIs("epoch " + n + ";", 1);
            due.is("count(3)", due.with("epoch " + n + ";").count(3), n);
        }
        worldFails("epoch 0;", 2, 6);
        worldFails("epoch 21;", 2, 6);
        worldFails("epoch 999;", 2, 6);
        due.is("5 without", due.with("link 1;").count(3), 5);
        due.is("5 without, behind one that was told", secondOf("epoch 7;", "link 1;").count(3), 5);
    }

    static void terms_worldLinkIs0To9() {
        int[] good = {0, 1, 8, 9};
        for (int n : good) {
            worldIs("link " + n + ";", 1);
            due.is("count(4)", due.with("link " + n + ";").count(4), n);
        }
        worldFails("link 10;", 2, 5);
        worldFails("link 999;", 2, 5);
        due.is("2 without", due.with("epoch 1;").count(4), 2);
        due.is("2 without, behind one that was told", secondOf("link 7;", "epoch 1;").count(4), 2);
    }

    private static AgreedInput secondOf(String first, String second) {
        AgreedInput x = due.with(first);
        due.is("world() of " + second, Due.world(x, second), 1);
        return x;
    }

    static void terms_worldEpochAndLinkAreToldOnce() {
        worldFails("epoch 1;epoch 1;", 3, 8);
        worldFails("epoch 5;link 1;epoch", 3, 15);
        worldFails("link 0;link 0;", 3, 7);
        worldFails("link 2;epoch 1;link 99;", 3, 15);
        worldIs("link 2;epoch 5;", 2);
        // in the next WORLD each may be told again
        due.is("count(3)", secondOf("epoch 7;", "epoch 8;").count(3), 8);
        due.is("count(4)", secondOf("link 7;", "link 8;").count(4), 8);
    }

    static void terms_worldNamesAreNoneOfTheWords() {
        for (String word : WORDS) {
            worldFails("site " + word + ";", 1, 5);
            worldFails("site s;key " + word + " s 1;", 1, 11);
            worldFails("site s;key a " + word + " 1;", 1, 13);
            worldFails("copy " + word + " 1 first;", 1, 5);
            String less = word.substring(0, word.length() - 1);
            if (less.length() > 0 && !isWord(less)) {
                worldIs("site " + less + ";", 1);
            }
            if (word.length() < 7 && !isWord(word + "s")) {
                worldIs("site " + word + "s;", 1);
            }
        }
    }

    private static boolean isWord(String text) {
        for (String word : WORDS) {
            if (word.equals(text)) {
                return true;
            }
        }
        return false;
    }

    static void terms_worldNamesAreToldOnce() {
        worldIs("site s;site t;key a s 1;key b s 1;copy m 1 first;copy n 1 first;", 6);
        worldFails("site s;site s;", 3, 12);
        worldFails("site s;key a s 1;key a s 1;", 3, 21);
        worldFails("copy m 1 first;copy m 1 first;", 3, 20);
        worldFails("site s;key s s 1;", 3, 11);
        worldFails("site s;copy s 1 first;", 3, 12);
        worldFails("site s;key a s 1;site a;", 3, 22);
        worldFails("site s;key a s 1;copy a 1 first;", 3, 22);
        worldFails("copy m 1 first;site m;", 3, 20);
        worldFails("site s;copy m 1 first;key m s 1;", 3, 26);
        // in the next WORLD it may be told again
        due.is("count(0)", secondOf("site s;", "site s;").count(0), 1);
        due.is("count(0)", secondOf("copy s 1 last;", "site s;").count(0), 1);
    }

    static void terms_worldSiteOfAKeyIsToldAhead() {
        worldFails("key a s 1;", 3, 6);
        worldFails("key a s 1;site s;", 3, 6);
        worldFails("site s;key a a 1;", 3, 13);
        worldFails("site s;key a s 1;key b a 1;", 3, 23);
        worldFails("site s;copy m 1 first;key a m 1;", 3, 28);
        worldFails("site s;key a 1 1;", 1, 13);
        // of the WORLD ahead nothing is told any more
        AgreedInput x = due.with("site s;");
        due.is("world()", Due.world(x, "key a s 1;"), -1 - 6);
        due.is("fault()", x.fault(), 3);
    }

    static void terms_worldWithoutCopyHasOneOf1WorkerFirst() {
        String begin = "site s;key a s 1;key b s 2;epoch 1;";
        due.is("it is counted", due.with(begin).count(2), 1);
        due.is("one with a NAME", due.with(begin + "copy m 1 last;").count(2), 1);
        workersTake(begin, 1, 0);
        workersTake(begin + "copy m 1 first;", 1, 0);
        workersTake(begin + "copy m 1 last;", 0, 1);
        workersTake(begin + "copy m 2 last;", 1, 1);
        // it has no NAME
        AgreedInput x = due.with(begin);
        due.is("crash by a NAME", Due.book(x, 0, "crash m;"), -2 - 6);
        due.is("fault()", x.fault(), 3);
        due.is("value(0, 1)", x.value(0, 1), 2);
        due.throwsNoSuch("value(1, 1)", () -> x.value(1, 1));
        // after a WORLD whose COPY 0 took the last ones
        AgreedInput y = secondOf("copy m 4 last;", "site s;");
        Due.world(y, begin);
        takenNow(y, 1, 0);
    }

    private static void workersTake(String world, int first, int second) {
        takenNow(due.with(world), first, second);
    }

    private static void takenNow(AgreedInput x, int first, int second) {
        Due.submit(x, 0, "a = 5;");
        Due.submit(x, 0, "b = 6;");
        x.ticks(2);
        due.is("the first is DONE", x.how(0, 0), first * 2);
        due.is("the second is DONE", x.how(0, 1), second * 2);
    }

    // ---- a TRANS

    static void terms_transHas200BytesAtMost() {
        String one = "a = 1;";
        transIs(one + Due.times(194, " "), 1, 0);
        transFails(one + Due.times(195, " "), 1, 200);
        transIs(Due.times(194, "\n") + one, 1, 0);
        transFails(Due.times(195, "\n") + one, 1, 200);
        transFails(Due.times(200, " "), 1, 200);
        transFails(Due.times(201, " "), 1, 200);
        transFails(Due.times(199, " "), 1, 199);
        transFails(one + Due.times(934, " "), 1, 200);
    }

    static void terms_transHas1To6Steps() {
        transFails("", 1, 0);
        transFails(" ", 1, 1);
        for (int n = 1; n <= 6; n++) {
            transIs(Due.times(n, "a=1;"), n, 0);
            transIs(Due.times(n, "need a=1;"), n, 0);
        }
        transFails(Due.times(7, "a=1;"), 4, 24);
        transFails(Due.times(6, "a=1;") + "need b=1;", 4, 24);
        transFails(Due.times(6, "a=1;") + "at b=1;", 4, 24);
        transFails(Due.times(6, "need a=1;") + "b", 4, 54);
        transFails(Due.times(6, "a=1;") + ";", 1, 24);
        for (int n = 0; n <= 999; n += 97) {
            transFails(Due.times(6, "a=1;") + n + "=1;", 1, 24);
        }
        AgreedInput x = due.with("site s;key a s 1;key b s 1;key c s 1;");
        due.is("a seventh STEP of the last KEY", Due.submit(x, 0, Due.times(6, "a=1;") + "c=1;"), -26);
        due.is("fault()", x.fault(), 4);
        due.is("a fifth TERM of the last KEY", Due.submit(x, 0, "a=1+1+1+1+c;"), -12);
        due.is("fault()", x.fault(), 4);
    }

    static void terms_transStepHas1To4Terms() {
        transFails("a=;", 1, 2);
        transIs("a=1;", 1, 0);
        transIs("a=1+b;", 1, 0);
        transIs("a=1+b-2;", 1, 0);
        transIs("a=1+b-2-b;", 1, 0);
        transFails("a=1+b-2-b+3;", 4, 10);
        transFails("a=1+b-2-b-b;", 4, 10);
        transFails("a=1+b-2-b- at b;", 4, 11);
        transFails("a=1+b-2-b+;", 1, 10);
        // each STEP has its own four
        transIs("a=1+1+1+1;b=1-1-1-1;", 2, 0);
        transFails("a=1+1+1+1;b=1-1-1-1-1;", 4, 20);
    }

    static void terms_transNeedHasOneTerm() {
        transIs("need a<1;", 1, 0);
        transIs("need a=b;", 1, 0);
        transIs("need at a>at b;", 1, 2);
        transFails("need a<;", 1, 7);
        transFails("need a<1+1;", 1, 8);
        transFails("need a<1 1;", 1, 9);
        transFails("need a;", 1, 6);
        transFails("need a==1;", 1, 7);
        transFails("need 1=a;", 1, 5);
    }

    static void terms_transHas4AtAtMost() {
        transIs("a=b;", 1, 0);
        transIs("at a=1;", 1, 1);
        transIs("at a=at a+at b-at b;", 1, 4);
        transFails("at a=at a+at b-at b+at a;", 4, 20);
        transFails("at a=at a+at b;at a=at b;", 4, 20);
        transIs("at a=at a+at b;at a=b;", 2, 4);
        transIs("at a=1;need at a<at a;a=at a;b=a;", 4, 4);
        transFails("at a=1;need at a<at a;a=at a;b=at", 4, 31);
        transFails("at a=at a+at b-at b;need at a=1;", 4, 25);
    }

    static void terms_transNumberIs0To999() {
        transIs("a=0;", 1, 0);
        transIs("a=999;", 1, 0);
        transFails("a=1000;", 1, 2);
        transFails("a=-1;", 1, 2);
        transIs("need a=0;", 1, 0);
        transIs("need a=999;", 1, 0);
        transFails("need a=1000;", 1, 7);
    }

    static void terms_transRefIsAKey() {
        transFails("c = 1;", 3, 0);
        transFails("s = 1;", 3, 0);
        transFails("m = 1;", 3, 0);
        transFails("a = c;", 3, 4);
        transFails("at s = 1;", 3, 3);
        transFails("a = at n;", 3, 7);
        transFails("need s = 1;", 3, 5);
        transFails("need a = t;", 3, 9);
        transFails("at at a = 1;", 1, 3);
        transFails("at 1 = 1;", 1, 3);
        transFails("1 = a;", 1, 0);
        transFails("site = 1;", 1, 0);
        transFails("a = site;", 1, 4);
    }

    static void terms_transEndsBehindAStepAlone() {
        String text = "at a = b + 1 ; need a > 2 ;";
        transIs(text, 2, 1);
        int[] ends = {2, 4, 6, 8, 10, 12, 19, 21, 23, 25};
        for (int end : ends) {
            transFails(text.substring(0, end), 1, end);
        }
        transIs(text.substring(0, 14), 1, 1);
        transFails(text + ";", 1, 27);
        transFails("a = 1; 1", 1, 7);
    }

    // ---- a BOOK

    static void terms_bookHas400BytesAtMost() {
        bookIs("tick 1;" + Due.times(393, " "), -1);
        bookFails("tick 1;" + Due.times(394, " "), 1, 400);
        bookIs(Due.times(393, "\n") + "tick 1;", -1);
        bookFails(Due.times(394, "\n") + "tick 1;", 1, 400);
        bookIs(Due.times(400, " "), -1);
        bookFails(Due.times(401, " "), 1, 400);
    }

    static void terms_bookHas0To40Lines() {
        bookIs("", -1);
        bookIs("tick 1;", -1);
        bookIs(Due.times(39, "tick 1;"), -1);
        bookIs(Due.times(40, "tick 1;"), -1);
        bookFails(Due.times(41, "tick 1;"), 4, 280);
        bookFails(Due.times(40, "tick 1;") + "check", 4, 280);
        bookFails(Due.times(40, "tick 1;") + "crash", 4, 280);
        bookFails(Due.times(40, "tick 1;") + "put", 4, 280);
        bookFails(Due.times(40, "tick 1;") + "site", 1, 280);
    }

    static void terms_bookPutIs0To23() {
        bookIs("put s 0;", -1);
        bookIs("put t 2;", -1);
        bookIs("put t 3;", 0);
        bookIs("put t 23;", 0);
        bookFails("put t 24;", 2, 6);
        bookFails("put t 999;", 2, 6);
        bookFails("put t 1000;", 1, 6);
        bookFails("put a 1;", 3, 4);
        bookFails("put m 1;", 3, 4);
        bookFails("put u 1;", 3, 4);
        bookFails("put 1 1;", 1, 4);
        bookFails("put check 1;", 1, 4);
    }

    static void terms_bookTickIs1To60() {
        bookFails("tick 0;", 2, 5);
        bookIs("tick 1;", -1);
        bookIs("tick 60;", -1);
        bookFails("tick 61;", 2, 5);
        bookFails("tick 999;", 2, 5);
        bookFails("tick;", 1, 4);
    }

    static void terms_bookCrashIsACopy() {
        bookIs("crash m;", -1);
        bookIs("crash n;", -1);
        bookFails("crash s;", 3, 6);
        bookFails("crash a;", 3, 6);
        bookFails("crash o;", 3, 6);
        bookFails("crash 0;", 1, 6);
        bookFails("crash;", 1, 5);
    }

    static void terms_bookNamesTheLastOfEachSort() {
        AgreedInput x = due.with("site s;site t;site u;");
        due.is("a SITE where there is one COPY", Due.book(x, 0, "tick 1; put u 0;"), 1);
        due.is("told(0)", x.told(0), 9);
        AgreedInput y = due.with("site s;copy m 1 first;copy n 1 last;copy o 1 first;");
        due.is("a COPY where there is one SITE", Due.book(y, 0, "tick 1; crash o;"), 1);
        due.is("told(0)", y.told(0), 21);
        due.is("a COPY is no SITE", Due.book(y, 0, "put m 0;"), -2 - 4);
        due.is("fault()", y.fault(), 3);
        AgreedInput z = due.with("copy m 1 first;copy n 1 last;copy o 1 first;");
        due.is("a COPY without SITES", Due.book(z, 0, "check; crash o;"), 1);
        due.is("told(0)", z.told(0), 21);
    }

    static void terms_bookEndsBehindALineAlone() {
        String text = "put s 0 ; crash n ; tick 1 ; check ;";
        bookIs(text, 3);
        int[] ends = {3, 5, 7, 15, 17, 24, 26, 34};
        for (int end : ends) {
            bookFails(text.substring(0, end), 1, end);
        }
        bookIs(text.substring(0, 28), -1);
        bookFails("check check;", 1, 6);
        bookFails("check;;", 1, 6);
    }

    // ---- a SENTENCE

    static void terms_sentenceHas200BytesAtMost() {
        sentenceIs("done" + Due.times(196, " "), 1);
        sentenceFails("done" + Due.times(197, " "), 1, 200);
        sentenceIs(Due.times(196, "\n") + "done", 1);
        sentenceFails(Due.times(197, "\n") + "done", 1, 200);
        sentenceFails(Due.times(200, " "), 1, 200);
        sentenceFails(Due.times(201, " "), 1, 200);
    }

    static void terms_sentenceHas1To20Ones() {
        sentenceFails("", 1, 0);
        sentenceFails("  ", 1, 2);
        sentenceIs("done", 1);
        sentenceIs("wide" + Due.times(18, " or wide"), 19);
        sentenceIs("wide" + Due.times(19, " or wide"), 20);
        sentenceFails("wide" + Due.times(20, " or wide"), 4, 4 + 19 * 8 + 4);
        sentenceIs("wide" + Due.times(19, " and wide"), 20);
        sentenceFails("wide" + Due.times(20, " and wide"), 4, 4 + 19 * 9 + 5);
        // each not and each bracket is one of them
        sentenceIs("not wide" + Due.times(9, " or not wide"), 20);
        sentenceFails("not wide" + Due.times(9, " or not wide") + " or wide", 4, 8 + 9 * 12 + 4);
        sentenceIs("(wide)" + Due.times(9, " or(wide)"), 20);
        sentenceFails("(wide)" + Due.times(9, " or(wide)") + " or(wide)", 4, 6 + 9 * 9 + 3);
        sentenceIs("wide" + Due.times(9, " or not wide"), 19);
        sentenceFails("wide" + Due.times(9, " or not wide") + " or not wide", 4, 4 + 9 * 12 + 8);
    }

    static void terms_sentenceHas8OnesWithinOneAnother() {
        sentenceIs(Due.times(7, "(") + "wide" + Due.times(7, ")"), 8);
        sentenceFails(Due.times(8, "(") + "wide" + Due.times(8, ")"), 4, 8);
        sentenceIs(Due.times(7, "not ") + "wide", 8);
        sentenceFails(Due.times(8, "not ") + "wide", 4, 32);
        sentenceIs("not(not(not(not wide)))", 8);
        sentenceFails("not(not(not(not(wide))))", 4, 16);
        sentenceFails("not(not(not(not not wide)))", 4, 20);
        // those beside one another are not within one another
        sentenceIs("(((((((wide or wide and wide)))))))or not not not not not not not wide", 18);
        sentenceFails("(((((((wide or(wide)))))))))", 4, 15);
        sentenceIs("((((((wide or(wide)))))))", 9);
    }

    static void terms_sentenceNumberIs0To999() {
        String[] asked = {"place", "tries", "trans"};
        for (String what : asked) {
            sentenceIs(what + " = 0", 1);
            sentenceIs(what + " < 999", 1);
            sentenceFails(what + " > 1000", 1, 8);
            sentenceFails(what + " > -1", 1, 8);
            sentenceFails(what + " 1", 1, 6);
            sentenceFails(what + " + 1", 1, 6);
            sentenceFails(what + " = a", 1, 8);
            sentenceFails(what + " =", 1, 7);
            sentenceFails(what, 1, 5);
        }
    }

    static void terms_sentenceNamesAreOfTheirSort() {
        sentenceIs("reads a or writes b or from t", 3);
        sentenceFails("reads s", 3, 6);
        sentenceFails("reads m", 3, 6);
        sentenceFails("reads c", 3, 6);
        sentenceFails("writes t", 3, 7);
        sentenceFails("writes n", 3, 7);
        sentenceFails("from a", 3, 5);
        sentenceFails("from m", 3, 5);
        sentenceFails("from 1", 1, 5);
        sentenceFails("reads wide", 1, 6);
        sentenceFails("reads", 1, 5);
        sentenceFails("from", 1, 4);
    }

    static void terms_sentenceEndsBehindACond() {
        sentenceFails("not", 1, 3);
        sentenceFails("(", 1, 1);
        sentenceFails("()", 1, 1);
        sentenceFails("(wide", 1, 5);
        sentenceFails("wide)", 1, 4);
        sentenceFails("wide or", 1, 7);
        sentenceFails("wide and", 1, 8);
        sentenceFails("wide or or wide", 1, 8);
        sentenceFails("and wide", 1, 0);
        sentenceFails("wide wide", 1, 5);
        sentenceFails("wide;", 1, 4);
        sentenceFails("a", 1, 0);
        sentenceFails("tick", 1, 0);
    }

    // ---- FAULTS

    static void terms_faultOfTheEndIsAtHowManyBytesThereAre() {
        worldFails("site", 1, 4);
        worldFails("site   ", 1, 7);
        transFails("a = ", 1, 4);
        bookFails("tick\n", 1, 5);
        sentenceFails("not ", 1, 4);
    }

    static void terms_faultOfTooManyBytesIsAtTheMost() {
        // a TOKEN that begins ahead of the most is read whole, one behind it is not read
        worldFails(Due.times(899, " ") + "site", 1, 900);
        worldFails(Due.times(899, " ") + "sites", 1, 899);
        worldFails(Due.times(899, " ") + "a", 1, 899);
        worldFails(Due.times(900, " ") + "#", 1, 900);
        worldFails(Due.times(899, " ") + "#", 1, 899);
        worldFails("site" + Due.times(895, " ") + "abcdefg;", 1, 900);
        worldFails("site" + Due.times(895, " ") + "abcdefgh;", 1, 899);
        worldFails("site" + Due.times(896, " ") + "abcdefgh;", 1, 900);
        transFails("a=" + Due.times(197, " ") + "123;", 1, 200);
        transFails("a=" + Due.times(197, " ") + "1234;", 1, 199);
        transFails("a=" + Due.times(198, " ") + "1234;", 1, 200);
        transFails(Due.times(199, " ") + "abc", 3, 199);
        transFails(Due.times(200, " ") + "abc", 1, 200);
        bookFails("tick" + Due.times(395, " ") + "60;", 1, 400);
        bookFails("tick" + Due.times(395, " ") + "61;", 2, 399);
        bookFails("tick" + Due.times(396, " ") + "61;", 1, 400);
        sentenceFails("reads" + Due.times(194, " ") + "aa", 3, 199);
        sentenceFails("reads" + Due.times(195, " ") + "aa", 1, 200);
        sentenceFails(Due.times(199, " ") + "wide", 1, 200);
    }

    static void terms_faultAheadOfTheMostIsTheFirst() {
        worldFails("epoch 0;" + Due.times(932, " "), 2, 6);
        worldFails("link 1;link 1;" + Due.times(900, " "), 3, 7);
        transFails("c = 1;" + Due.times(400, " "), 3, 0);
        bookFails("tick 61;" + Due.times(500, " "), 2, 5);
        sentenceFails("done done" + Due.times(300, " "), 1, 5);
    }

    static void terms_faultIsTheFirstAlongTheText() {
        worldFails("site s;epoch 0;epoch 0;site s;#", 2, 13);
        worldFails("site s;site s;epoch 0;", 3, 12);
        worldFails("site p;site q;site r;site 1;epoch 0;", 4, 21);
        transFails("a = c; a = 1000; 1", 3, 4);
        transFails("a = 1000; a = c;", 1, 4);
        bookFails("tick 61; put u 99;", 2, 5);
        bookFails("put u 99;", 3, 4);
        bookFails("put s 99; check", 2, 6);
        sentenceFails("reads c or place < 1000", 3, 6);
    }

    static void terms_faultOfOneTokenIsTheLeast() {
        // a seventh STEP, a fifth TERM, a 41st LINE, a 21st ONE, a ninth within that can't begin so, or with such a NAME
        transFails(Due.times(6, "a=1;") + "c=1;", 3, 24);
        transFails(Due.times(6, "a=1;") + "s=1;", 3, 24);
        transFails(Due.times(6, "a=1;") + "1=1;", 1, 24);
        transFails(Due.times(6, "a=1;") + "tick", 1, 24);
        transFails(Due.times(6, "a=1;") + "#", 1, 24);
        transFails("a=1+1+1+1+c;", 3, 10);
        transFails("a=1+1+1+1+m;", 3, 10);
        transFails("a=1+1+1+1+1000;", 1, 10);
        transFails("a=1+1+1+1+need;", 1, 10);
        transFails("a=1+1+1+1+", 1, 10);
        bookFails(Due.times(40, "check;") + "a", 1, 240);
        bookFails(Due.times(40, "check;") + ";", 1, 240);
        bookFails(Due.times(40, "check;") + "abcdefgh", 1, 240);
        sentenceFails("wide" + Due.times(19, " or wide") + " or ", 1, 4 + 19 * 8 + 4);
        sentenceFails("wide" + Due.times(19, " or wide") + " or a", 1, 4 + 19 * 8 + 4);
        sentenceFails("wide" + Due.times(19, " or wide") + " or )", 1, 4 + 19 * 8 + 4);
        sentenceFails(Due.times(8, "(") + ")", 1, 8);
        sentenceFails(Due.times(8, "(") + "or", 1, 8);
        sentenceFails(Due.times(8, "("), 1, 8);
        // a NAME that is told twice, where there is one more than there may be
        worldFails("site p;site q;site r;site p;", 4, 21);
    }

    static void terms_faultOfOneMoreIsAtItsFirstToken() {
        worldFails("site p;site q;site r;\nsite\nu;", 4, 22);
        transFails(Due.times(6, "a=1;") + " need a=1;", 4, 25);
        transFails("a=1+1+1+1+ at b;", 4, 11);
        bookFails(Due.times(40, "check;") + " put s 0;", 4, 241);
        sentenceFails("wide" + Due.times(19, " or wide") + " or reads a", 4, 4 + 19 * 8 + 4);
        sentenceFails("wide" + Due.times(19, " or wide") + " or reads c", 4, 4 + 19 * 8 + 4);
        sentenceFails(Due.times(8, "(") + " place < 3", 4, 9);
    }

    public static void main(String[] args) {
        Cases.run(EdgesOfTermsTest.class, due);
        due.finish();
    }
}
