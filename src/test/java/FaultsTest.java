/** FAULTS of the four sorts of texts: of which kind, and at which place. */
public final class FaultsTest {
    private static final Due due = new Due("FaultsTest");
    private static final String WORLD = "site s; site t; key a s 1; key b t 2; copy m 1 first;";

    private static void world(String text, int kind, int place) {
        AgreedInput x = new AgreedInput();
        due.is("world() of " + text, Due.world(x, text), -1 - place);
        due.is("fault() of " + text, x.fault(), kind);
        due.is("it stays: " + text, x.count(0) + x.count(1), 0);
    }

    private static AgreedInput ready() {
        AgreedInput x = new AgreedInput();
        Due.world(x, WORLD);
        return x;
    }

    private static void trans(String text, int kind, int place) {
        AgreedInput x = ready();
        due.is("submit() of " + text, Due.submit(x, 1, text), -2 - place);
        due.is("fault() of " + text, x.fault(), kind);
        due.is("no TRANS: " + text, x.now(1), 0);
    }

    private static void book(String text, int kind, int place) {
        AgreedInput x = ready();
        due.is("book() of " + text, Due.book(x, 1, text), -2 - place);
        due.is("fault() of " + text, x.fault(), kind);
        due.is("nothing is lived: " + text, x.now(0), 0);
        due.is("nothing is told: " + text, x.told(0), -1);
    }

    private static void sentence(String text, int kind, int place) {
        AgreedInput x = ready();
        due.is("sentence() of " + text, Due.sentence(x, text), -1 - place);
        due.is("fault() of " + text, x.fault(), kind);
        due.is("no SENTENCE: " + text, x.said(-1), -1);
    }

    private static void fine(String text) {
        AgreedInput x = ready();
        due.is("submit() of " + text, Due.submit(x, 0, text), 0);
        due.is("fault() of " + text, x.fault(), 0);
    }

    private static void worlds() {
        world("a", 1, 0);
        world("site", 1, 4);
        world("site s", 1, 6);
        world("site s,", 1, 6);
        world("site s . ", 1, 7);
        world("site 12;", 1, 5);
        world("site S;", 1, 5);
        world("site abcdefgh;", 1, 5);
        world("site abc1;", 1, 5);
        world("\nsite site;", 1, 6);
        world("site tries;", 1, 5);
        world("site s; site s;", 3, 13);
        world("site s; key s s 1;", 3, 12);
        world("site s; copy s 1 first;", 3, 13);
        world("key k s 1;", 3, 6);
        world("site s; key k k 1;", 3, 14);
        world("site s; copy c 1 first; key k c 1;", 3, 30);
        world("site s; key k s;", 1, 15);
        world("site s; key k s 1000;", 1, 16);
        world("site s; key k 5 1;", 1, 14);
        world("site s; key k site 1;", 1, 14);
        world("copy c first;", 1, 7);
        world("copy c 0 first;", 2, 7);
        world("copy c 5 first;", 2, 7);
        world("copy c 4;", 1, 8);
        world("copy c 4 done;", 1, 9);
        world("copy first 4 first;", 1, 5);
        world("epoch 0;", 2, 6);
        world("epoch 21;", 2, 6);
        world("epoch;", 1, 5);
        world("epoch 5; epoch 5;", 3, 9);
        world("epoch 5; epoch", 3, 9);
        world("link 10;", 2, 5);
        world("link 0; link 0;", 3, 8);
        world("site a;site b;site c;site d;", 4, 21);
        world("site a;site b;site c;site", 4, 21);
        world("copy a 1 first;copy b 1 last;copy c 1 last;copy d 1 last;", 4, 43);
        world("site s;" + tenKeys() + "key k s 1;", 4, 7 + 10 * 11);
        world("site s; ; ", 1, 8);
        world("need a = 1;", 1, 0);
        world("site s;\u0000", 1, 7);
        world("site s;\u00ff", 1, 7);
        world("site s;\t", 1, 7);
        AgreedInput x = new AgreedInput();
        due.is("TOKENS without blanks", Due.world(x, "site s;key abcdefg s 000;copy m 4 last;epoch 001;link\n9;"), 5);
        due.is("a NUMBER with 0 ahead", x.count(3), 1);
        due.is("a WORD goes on as long as digits do", Due.world(x, "epoch1;"), -1);
        due.is("a TOKEN as long as the text may be", Due.world(x, Due.times(940, "a")), -1);
        due.is("fault()", x.fault(), 1);
        due.is("940 blanks", Due.world(x, Due.times(940, " ")), -901);
        due.is("a FAULT ahead of the end", Due.world(x, "site" + Due.times(930, " ")), -901);
        due.is("a FAULT that is ahead", Due.world(x, "sit " + Due.times(930, " ")), -1);
    }

    private static String tenKeys() {
        StringBuilder text = new StringBuilder();
        for (char c = 'a'; c < 'a' + 10; c++) {
            text.append("key k").append(c).append(" s 1;");
        }
        return text.toString();
    }

    private static void transes() {
        trans("", 1, 0);
        trans(" \n", 1, 2);
        trans("a", 1, 1);
        trans("a = ", 1, 4);
        trans("a = 1", 1, 5);
        trans("a = 1 b = 2;", 1, 6);
        trans("a < 1;", 1, 2);
        trans("a = b < 1;", 1, 6);
        trans("c = 1;", 3, 0);
        trans("s = 1;", 3, 0);
        trans("m = 1;", 3, 0);
        trans("a = t;", 3, 4);
        trans("a = first;", 1, 4);
        trans("need = 1;", 1, 5);
        trans("need a 1;", 1, 7);
        trans("need a = 1 + 1;", 1, 11);
        trans("need a + 1;", 1, 7);
        trans("need 1 = a;", 1, 5);
        trans("at 1 = a;", 1, 3);
        trans("at at a = 1;", 1, 3);
        trans("at s = 1;", 3, 3);
        trans("a = at q;", 3, 7);
        trans("a = 1000;", 1, 4);
        trans("a = -1;", 1, 4);
        trans("a = 1 + + 1;", 1, 8);
        trans("a = (1);", 1, 4);
        trans("1 = a;", 1, 0);
        trans("a=1;;", 1, 4);
        trans("site s;", 1, 0);
        trans("a = 1 + 2 - 3 + 4 + 5;", 4, 20);
        trans("a = 1 + 2 - 3 + 4 + b;", 4, 20);
        trans("a = 1 + 2 - 3 + 4 + at b;", 4, 20);
        trans("a = 1 + 2 - 3 + 4 + c;", 3, 20);
        trans("a = 1 + 2 - 3 + 4 + ;", 1, 20);
        trans("a = 1 + 2 - 3 + 4 + need;", 1, 20);
        trans("a = 1 + 2 - 3 + 4 + ", 1, 20);
        trans("at a=at a+at a+at a+at a;", 4, 20);
        trans("at a=at a;need at a<at a;a=at b;", 4, 27);
        trans("at a=at a;need at a<at a;a=at q;", 4, 27);
        trans("at a=at a;need at a<at a;need at", 4, 30);
        String six = "a=1;b=1;a=2;b=2;a=3;b=3;";
        trans(six + "a=4;", 4, 24);
        trans(six + "need", 4, 24);
        trans(six + "at", 4, 24);
        trans(six + "c=1;", 3, 24);
        trans(six + "s=1;", 3, 24);
        trans(six + "1=1;", 1, 24);
        trans(six + ";", 1, 24);
        trans(six + "site", 1, 24);
        trans(six + "a1", 1, 24);
        trans(Due.times(201, " "), 1, 200);
        trans("a=1;" + Due.times(195, " ") + "b=1;", 1, 200);
        trans(Due.times(199, " ") + "abc", 3, 199);
        fine(six);
        fine("at a = at a + at a - at b;");
        fine("need at a > at b;");
        fine("a=b+b-b+999;");
        fine("a = 1;" + Due.times(194, "\n"));
    }

    private static void books() {
        book("put", 1, 3);
        book("put s", 1, 5);
        book("put s 24;", 2, 6);
        book("put s 23", 1, 8);
        book("put a 1;", 3, 4);
        book("put m 1;", 3, 4);
        book("put x 1;", 3, 4);
        book("put 1 1;", 1, 4);
        book("check 1;", 1, 6);
        book("check; check", 1, 12);
        book("crash;", 1, 5);
        book("crash s;", 3, 6);
        book("crash a;", 3, 6);
        book("crash x;", 3, 6);
        book("crash first;", 1, 6);
        book("tick 0;", 2, 5);
        book("tick 61;", 2, 5);
        book("tick;", 1, 4);
        book("ticks 1;", 1, 0);
        book("s;", 1, 0);
        book(";", 1, 0);
        String forty = Due.times(40, "check;");
        book(forty + "check;", 4, 240);
        book(forty + "put", 4, 240);
        book(forty + "s", 1, 240);
        book(forty + "1", 1, 240);
        book(Due.times(401, " "), 1, 400);
        book(Due.times(396, " ") + "check", 1, 400);
        book(Due.times(398, " ") + "check;", 1, 400);
        AgreedInput x = ready();
        due.is("the COPY without a NAME can't be told", Due.world(x, "site s;"), 1);
        due.is("crash of none", Due.book(x, 0, "crash s;"), -2 - 6);
        due.is("fault()", x.fault(), 3);
    }

    private static void sentences() {
        sentence("", 1, 0);
        sentence("  ", 1, 2);
        sentence("not", 1, 3);
        sentence("not )", 1, 4);
        sentence("(", 1, 1);
        sentence("()", 1, 1);
        sentence("(done", 1, 5);
        sentence("(done;", 1, 5);
        sentence("done done", 1, 5);
        sentence("done and", 1, 8);
        sentence("done or and", 1, 8);
        sentence("and done", 1, 0);
        sentence("done)", 1, 4);
        sentence("reads", 1, 5);
        sentence("reads s", 3, 6);
        sentence("writes x", 3, 7);
        sentence("writes not", 1, 7);
        sentence("from a", 3, 5);
        sentence("from m", 3, 5);
        sentence("from 1", 1, 5);
        sentence("place 3", 1, 6);
        sentence("place + 3", 1, 6);
        sentence("place < a", 1, 8);
        sentence("place < 1000", 1, 8);
        sentence("tries <", 1, 7);
        sentence("trans = = 1", 1, 8);
        sentence("check", 1, 0);
        sentence("a", 1, 0);
        sentence("done.", 1, 4);
        String twenty = "done" + Due.times(19, " or done");
        sentence(twenty + " or done", 4, twenty.length() + 4);
        sentence(twenty + " or (", 4, twenty.length() + 4);
        sentence(twenty + " or not", 4, twenty.length() + 4);
        sentence(twenty + " or x", 1, twenty.length() + 4);
        sentence(twenty + " or", 1, twenty.length() + 3);
        sentence(Due.times(8, "(") + "done" + Due.times(8, ")"), 4, 8);
        sentence(Due.times(8, "(") + "not", 4, 8);
        sentence(Due.times(8, "(") + "a", 1, 8);
        sentence(Due.times(8, "not ") + "done", 4, 32);
        sentence("done or (((((((done or (done)))))))))", 4, 24);
        sentence(Due.times(201, " "), 1, 200);
        sentence(Due.times(197, " ") + "done", 1, 200);
        AgreedInput x = ready();
        due.is("8 within one another", Due.sentence(x, Due.times(7, "(") + "done" + Due.times(7, ")")), 8);
        due.is("depth counts by itself", Due.sentence(x, "not not not not not not not done and not not not not not not not done"), 16);
        due.is("NUMBERS of any size", Due.sentence(x, "place<999 and(tries=0)or trans>00"), 4);
    }

    public static void main(String[] args) {
        worlds();
        transes();
        books();
        sentences();
        due.finish();
    }
}
