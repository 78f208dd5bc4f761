import java.nio.charset.StandardCharsets;
import java.util.ArrayList;
import java.util.Arrays;
import java.util.List;
import java.util.Random;
import java.util.function.IntSupplier;

/** Runs of calls, drawn by numbers that are always the same, each answer compared with Model's. */
public final class RandomRunsTest {
    /** What an object answers behind these calls is free. */
    private static final int MOST_CALLS = 512;
    /** More than one act takes with its text, and one look. */
    private static final int CALLS_OF_ONE_ACT = 60;

    private final Random draws;
    private final Due due;
    private final String run;
    private final AgreedInput x = new AgreedInput();
    private final Model m = new Model();
    /** 0 some of all, 1 many TICKS, 2 much that is PUT, and 'at' often, so that the ORDER comes to be full. */
    private final int sort;
    private int calls;
    private static int mostCalls;
    private static int mostTicks;
    private static int mostOrdered;
    private static int mostTries;

    private RandomRunsTest(int seed, Due due) {
        draws = new Random(seed);
        sort = seed % 3;
        run = "run " + seed;
        this.due = due;
    }

    private int draw(int n) {
        return draws.nextInt(n);
    }

    private boolean oneIn(int n) {
        return draw(n) == 0;
    }

    private <T> T oneOf(List<T> list) {
        return list.get(draw(list.size()));
    }

    private void compare(String call, IntSupplier got, IntSupplier wanted) {
        calls++;
        due.is(run + ", call " + calls + ": " + call, Due.answer(got), Due.answer(wanted));
    }

    private static int bit(boolean b) {
        return b ? 1 : 0;
    }

    // ---- texts

    private void tape(String text) {
        byte[] bytes = text.getBytes(StandardCharsets.ISO_8859_1);
        compare("end(0)", () -> bit(x.end(0)), () -> bit(m.end(0)));
        for (int i = 0; i < bytes.length; i += 20) {
            int[] n = new int[5];
            for (int j = 0; j < 5; j++) {
                n[j] = Due.number(bytes, i + 4 * j);
            }
            compare("feed", () -> x.feed(n[0], n[1], n[2], n[3], n[4]), () -> m.feed(n[0], n[1], n[2], n[3], n[4]));
        }
        compare("end", () -> bit(x.end(bytes.length)), () -> bit(m.end(bytes.length)));
    }

    private static final List<String> NAMES = Arrays.asList("a", "b", "c", "d", "e", "f", "g", "h", "north", "south",
        "left", "acct", "total", "idx", "main", "spare", "zzzzzzz", "q");

    private String join(List<String> tokens) {
        StringBuilder text = new StringBuilder();
        boolean tight = oneIn(2);
        for (String token : tokens) {
            boolean needs = text.length() > 0 && Model.Text.part(text.charAt(text.length() - 1)) && Model.Text.part(token.charAt(0));
            if (needs || !tight && oneIn(2)) {
                text.append(oneIn(5) ? "\n" : " ");
            }
            text.append(token);
        }
        return text.toString();
    }

    private String spoil(List<String> tokens, int one) {
        if (!oneIn(one) || tokens.isEmpty()) {
            return join(tokens);
        }
        List<String> other = new ArrayList<>(tokens);
        int at = draw(other.size());
        switch (draw(6)) {
            case 0:
                other.remove(at);
                break;
            case 1:
                other.add(at, oneOf(tokens));
                break;
            case 2:
                other.set(at, oneOf(tokens));
                break;
            case 3:
                other.set(at, oneOf(Arrays.asList("1000", "999", "0", "00", "61", "site", "not", "at", "need", "(", ")", ".",
                    ";", "a1", "abcdefgh", "#", "A", "", "\t", "\u00e9", "<", "99", "x", "first", "tick", "trans")));
                break;
            case 4:
                other = other.subList(0, at);
                break;
            default:
                String text = join(other);
                int cut = draw(text.length() + 1);
                return text.substring(0, cut) + (char) draw(256) + text.substring(Math.min(text.length(), cut + draw(2)));
        }
        other.removeIf(String::isEmpty);
        return join(other);
    }

    private void add(List<String> tokens, Object... more) {
        for (Object token : more) {
            tokens.add(token.toString());
        }
    }

    private String worldText() {
        List<String> names = new ArrayList<>(NAMES);
        java.util.Collections.shuffle(names, draws);
        List<String> t = new ArrayList<>();
        int sites = 1 + draw(3) + bit(oneIn(20));
        int keys = oneIn(15) ? draw(12) : 2 + draw(6);
        int copies = draw(4) + bit(oneIn(20));
        int next = 0;
        boolean epochFirst = oneIn(2);
        if (epochFirst) {
            add(t, "epoch", oneIn(3) ? 1 + draw(20) : 1 + draw(4), ";");
        }
        for (int s = 0; s < sites; s++) {
            add(t, "site", names.get(next++), ";");
        }
        for (int k = 0; k < keys && next < names.size(); k++) {
            add(t, "key", names.get(next++), names.get(draw(sites)), oneIn(4) ? draw(1000) : draw(12), ";");
        }
        for (int c = 0; c < copies && next < names.size(); c++) {
            add(t, "copy", names.get(next++), 1 + draw(4), oneIn(2) ? "first" : "last", ";");
        }
        if (!oneIn(4)) {
            add(t, "link", oneIn(3) ? draw(10) : draw(4), ";");
        }
        if (!epochFirst && !oneIn(3)) {
            add(t, "epoch", 1 + draw(20), ";");
        }
        return pad(spoil(t, 6), 900);
    }

    /** Now and then as long as a text may be, or one more. */
    private String pad(String text, int most) {
        if (!oneIn(12)) {
            return text;
        }
        StringBuilder longer = new StringBuilder(text);
        int size = most - 2 + draw(5);
        boolean ahead = oneIn(2);
        while (longer.length() < size) {
            longer.insert(ahead ? 0 : longer.length(), ' ');
        }
        return longer.toString();
    }

    private String key() {
        return m.db.world.keys.isEmpty() ? "a" : oneOf(m.db.world.keys);
    }

    private String ref() {
        return oneIn(sort == 2 ? 2 : 5) ? "at " + key() : key();
    }

    private String term() {
        return oneIn(2) ? String.valueOf(oneIn(4) ? draw(1000) : draw(6)) : ref();
    }

    private void addAll(List<String> tokens, String words) {
        tokens.addAll(Arrays.asList(words.split(" ")));
    }

    private String transText() {
        List<String> t = new ArrayList<>();
        int steps = oneIn(15) ? 7 : 1 + draw(oneIn(3) ? 6 : 2);
        for (int s = 0; s < steps; s++) {
            if (oneIn(5)) {
                add(t, "need");
                addAll(t, ref());
                add(t, oneOf(Arrays.asList("<", "=", ">")));
                addAll(t, term());
            } else {
                addAll(t, ref());
                add(t, "=");
                addAll(t, term());
                int more = oneIn(25) ? 4 : draw(3);
                for (int i = 0; i < more; i++) {
                    add(t, oneIn(3) ? "-" : "+");
                    addAll(t, term());
                }
            }
            add(t, ";");
        }
        return pad(spoil(t, 7), 200);
    }

    private String bookText() {
        List<String> t = new ArrayList<>();
        int lines = oneIn(12) ? 38 + draw(5) : draw(7);
        for (int i = 0; i < lines; i++) {
            switch (draw(6)) {
                case 0:
                    add(t, "check");
                    break;
                case 1:
                    add(t, "crash", oneOf(m.db.world.copies).replace("?", "a"));
                    break;
                case 2:
                case 3:
                    add(t, "tick", oneIn(8) ? 1 + draw(60) : 1 + draw(4));
                    break;
                default:
                    add(t, "put", m.db.world.sites.isEmpty() ? "a" : oneOf(m.db.world.sites), draw(oneIn(4) ? 25 : 4));
                    break;
            }
            add(t, ";");
        }
        return pad(spoil(t, 6), 400);
    }

    private void addCond(List<String> t, int depth) {
        int parts = oneIn(12) ? 8 : 1 + draw(3);
        for (int i = 0; i < parts; i++) {
            if (i > 0) {
                add(t, oneIn(2) ? "or" : "and");
            }
            addOne(t, depth);
        }
    }

    private void addOne(List<String> t, int depth) {
        int what = draw(12);
        if (what == 0 || depth > 0 && what == 5) {
            add(t, "not");
            addOne(t, depth + 1);
        } else if (what == 1 && depth < 9) {
            add(t, "(");
            addCond(t, depth + 1);
            add(t, ")");
        } else if (what == 2) {
            add(t, oneIn(2) ? "reads" : "writes", key());
        } else if (what == 3) {
            add(t, "from", m.db.world.sites.isEmpty() ? "a" : oneOf(m.db.world.sites));
        } else if (what == 4 || what == 6) {
            add(t, oneOf(Arrays.asList("place", "tries", "trans")), oneOf(Arrays.asList("<", "=", ">")), draw(oneIn(3) ? 40 : 5));
        } else {
            add(t, oneOf(Arrays.asList("waiting", "going", "done", "retried", "stopped", "ready", "wide")));
        }
    }

    private String sentenceText() {
        List<String> t = new ArrayList<>();
        if (oneIn(6)) {
            for (int i = 5 + draw(5); i > 0; i--) {
                t.add(oneIn(2) ? "not" : "(");
            }
        }
        addCond(t, 0);
        if (!oneIn(8)) {
            for (int i = java.util.Collections.frequency(t, "(") - java.util.Collections.frequency(t, ")"); i > 0; i--) {
                t.add(")");
            }
        }
        return pad(spoil(t, 6), 200);
    }

    // ---- calls

    private int odd() {
        return oneOf(Arrays.asList(-1, -2, 3, 10, 24, 40, 41, 1000, Integer.MIN_VALUE, Integer.MAX_VALUE, 64, 32, 8));
    }

    private int near(int n) {
        return oneIn(25) ? odd() : draw(n + 1);
    }

    private void tellWorld() {
        String text = worldText();
        tape(text);
        compare("world() of " + text, x::world, m::world);
        compare("fault()", x::fault, m::fault);
    }

    private void act() {
        int sites = m.db.world.sites.size();
        int s = near(sites);
        int act = draw(20);
        if (sort == 1 && oneIn(3)) {
            act = 19;
        } else if (sort == 2 && oneIn(3)) {
            act = 4;
        } else if (act == 11 && oneIn(2)) {
            act = 19;
        }
        switch (act) {
            case 0: case 1: case 2: case 3:
                String trans = transText();
                tape(trans);
                compare("submit(" + s + ") of " + trans, () -> x.submit(s), () -> m.submit(s));
                compare("fault()", x::fault, m::fault);
                break;
            case 4: case 5: case 6:
                int n = near(m.db.transes.size());
                compare("put(" + s + ", " + n + ")", () -> x.put(s, n), () -> m.put(s, n));
                break;
            case 7:
                compare("check()", x::check, m::check);
                break;
            case 8:
                int c = near(m.db.copies.size());
                compare("crash(" + c + ")", () -> x.crash(c), () -> m.crash(c));
                break;
            case 9:
                String book = bookText();
                int lives = oneIn(20) ? odd() : draw(2);
                tape(book);
                compare("book(" + lives + ") of " + book, () -> x.book(lives), () -> m.book(lives));
                compare("fault()", x::fault, m::fault);
                for (int what = -1; what <= 4; what++) {
                    int w = what;
                    compare("told(" + w + ")", () -> x.told(w), () -> m.told(w));
                }
                break;
            case 10:
                String sentence = sentenceText();
                tape(sentence);
                compare("sentence() of " + sentence, x::sentence, m::sentence);
                compare("fault()", x::fault, m::fault);
                break;
            case 11:
                int many = draw(oneIn(8) ? 10 : 3);
                compare("undo()", x::undo, m::undo);
                for (int i = 0; i < many; i++) {
                    compare("undo()", x::undo, m::undo);
                }
                break;
            case 12:
                int k = near(1);
                compare("image(" + k + ")", () -> bit(x.image(k)), () -> bit(m.image(k)));
                break;
            case 13:
                int r = near(1);
                if (oneIn(4)) {
                    compare("restore(" + r + ")", () -> bit(x.restore(r)), () -> bit(m.restore(r)));
                }
                break;
            case 14:
                int d = oneIn(10) ? draw(70) : 1 + draw(8);
                int seed = draws.nextInt();
                compare("drawn(" + d + ", " + seed + ")", () -> x.drawn(d, seed), () -> m.drawn(d, seed));
                break;
            case 15:
                soByTape();
                break;
            default:
                int t = oneIn(40) ? odd() : sort == 1 ? 1 + draw(60) : 1 + draw(oneIn(5) ? 20 : 3);
                compare("ticks(" + t + ")", () -> x.ticks(t), () -> m.ticks(t));
                break;
        }
    }

    private void soByTape() {
        StringBuilder text = new StringBuilder();
        int pairs = oneIn(8) ? draw(9) : 1 + draw(2);
        List<int[]> serially = m.db.serially();
        for (int i = 0; i < pairs; i++) {
            int k = draw(Math.max(1, m.db.world.keys.size()) + bit(oneIn(10)));
            int[] values = oneOf(serially);
            int v = k < values.length && !oneIn(6) ? values[k] & 255 : draw(256);
            text.append((char) k).append((char) v);
        }
        if (oneIn(15)) {
            text.append('x');
        }
        tape(text.toString());
        compare("so()", x::so, m::so);
        for (int i = -1; i < 4; i++) {
            int k = i;
            compare("soAt(" + k + ")", () -> x.soAt(k), () -> m.soAt(k));
        }
        compare("ask()", x::ask, m::ask);
    }

    private void look() {
        int c = near(m.db.copies.size());
        int k = near(m.db.world.keys.size());
        int i = near(m.db.order.size());
        int few = near(5);
        int what = near(9);
        int s = near(m.db.world.sites.size());
        int n = near(m.db.transes.size());
        switch (draw(27)) {
            case 0: compare("now(" + what + ")", () -> x.now(what), () -> m.now(what)); break;
            case 1: compare("value(" + c + ", " + k + ")", () -> x.value(c, k), () -> m.value(c, k)); break;
            case 2: compare("key(" + k + ", " + few + ")", () -> x.key(k, few), () -> m.key(k, few)); break;
            case 3: compare("trans(" + n + ", " + few + ")", () -> x.trans(n, few), () -> m.trans(n, few)); break;
            case 4: compare("arrived(" + s + ", " + few + ")", () -> x.arrived(s, few), () -> m.arrived(s, few)); break;
            case 5: case 6: compare("entry(" + i + ", " + few + ")", () -> x.entry(i, few), () -> m.entry(i, few)); break;
            case 7: case 8: compare("how(" + c + ", " + i + ")", () -> x.how(c, i), () -> m.how(c, i)); break;
            case 9: compare("foreseen(" + i + ", " + few + ")", () -> x.foreseen(i, few), () -> m.foreseen(i, few)); break;
            case 10: case 11: compare("asks(" + c + ", " + k + ", " + few + ")", () -> x.asks(c, k, few), () -> m.asks(c, k, few)); break;
            case 12: case 13: compare("ready(" + c + ", " + few + ")", () -> x.ready(c, few), () -> m.ready(c, few)); break;
            case 14: compare("waits(" + c + ", " + i + ")", () -> x.waits(c, i), () -> m.waits(c, i)); break;
            case 15: compare("serial(" + k + ")", () -> x.serial(k), () -> m.serial(k)); break;
            case 16: compare("same()", x::same, m::same); break;
            case 17: compare("chain()", x::chain, m::chain); break;
            case 18: compare("least()", x::least, m::least); break;
            case 19: if (oneIn(3)) compare("over()", x::over, m::over); break;
            case 20: compare("soAt(" + few + ")", () -> x.soAt(few), () -> m.soAt(few)); break;
            case 21: compare("ask()", x::ask, m::ask); break;
            case 22:
                int seed = draws.nextInt();
                int seeds = oneIn(8) ? odd() : 1 + draw(4);
                if (oneIn(6)) compare("odds(" + seeds + ", " + seed + ")", () -> x.odds(seeds, seed), () -> m.odds(seeds, seed));
                break;
            case 23: compare("told(" + few + ")", () -> x.told(few), () -> m.told(few)); break;
            case 24: case 25: int q = few - 2; compare("said(" + q + ")", () -> x.said(q), () -> m.said(q)); break;
            default: compare("count(" + few + ")", () -> x.count(few), () -> m.count(few)); break;
        }
    }

    private int callsOfLookAtAll() {
        return m.db.copies.size() * (m.db.world.keys.size() + m.db.order.size());
    }

    private void lookAtAll() {
        for (int c = 0; c < m.db.copies.size(); c++) {
            int copy = c;
            for (int k = 0; k < m.db.world.keys.size() && calls < MOST_CALLS; k++) {
                int key = k;
                compare("value(" + c + ", " + k + ")", () -> x.value(copy, key), () -> m.value(copy, key));
            }
            for (int i = 0; i < m.db.order.size() && calls < MOST_CALLS; i++) {
                int place = i;
                compare("how(" + c + ", " + i + ")", () -> x.how(copy, place), () -> m.how(copy, place));
            }
        }
    }

    private void go() {
        tellWorld();
        while (calls + callsOfLookAtAll() + CALLS_OF_ONE_ACT <= MOST_CALLS && !due.isWrong()) {
            if (oneIn(m.db.world.keys.isEmpty() ? 10 : sort == 0 ? 60 : 300)) {
                tellWorld();
            } else if (oneIn(2)) {
                act();
            } else {
                look();
            }
        }
        lookAtAll();
        mostCalls = Math.max(mostCalls, calls);
        mostTicks = Math.max(mostTicks, m.db.tick);
        mostOrdered = Math.max(mostOrdered, m.db.order.size());
        for (int n = 0; n < m.db.transes.size(); n++) {
            mostTries = Math.max(mostTries, m.db.entriesOf(n));
        }
    }

    public static void main(String[] args) {
        int from = args.length > 0 ? Integer.parseInt(args[0]) : 0;
        int runs = args.length > 1 ? Integer.parseInt(args[1]) : 1500;
        Due due = new Due("RandomRunsTest");
        for (int seed = from; seed < from + runs && !due.isWrong(); seed++) {
            new RandomRunsTest(seed, due).go();
        }
        due.is("calls of one object stay within 512", mostCalls <= MOST_CALLS, true);
        // runs that never come there would show nothing of these edges
        due.is("TICK 1000 was reached", runs < 1000 || mostTicks == 1000, true);
        due.is("the ORDER was full", runs < 1000 || mostOrdered == 40, true);
        due.is("a TRANS was asked anew", runs < 1000 || mostTries > 2, true);
        due.finish();
    }
}
