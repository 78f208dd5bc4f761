import java.util.ArrayList;
import java.util.Arrays;
import java.util.Collections;
import java.util.HashMap;
import java.util.HashSet;
import java.util.LinkedHashMap;
import java.util.List;
import java.util.Map;
import java.util.NoSuchElementException;
import java.util.Set;
import java.util.TreeSet;
import java.util.function.IntPredicate;

/**
 * The document once more, in the plainest form and with nothing of AgreedInput in it: lists that are copied whole,
 * texts read sign by sign, a row of who asks for each KEY. Slow, and there to be compared with.
 */
final class Model {
    static final int NONE = -1;
    static final Set<String> RESERVED = new HashSet<>(Arrays.asList("site", "key", "copy", "first", "last", "epoch",
        "link", "need", "at", "put", "check", "crash", "tick", "or", "and", "not", "waiting", "going", "done", "retried",
        "stopped", "ready", "wide", "reads", "writes", "from", "place", "tries", "trans"));

    static final class Fault extends RuntimeException {
        private static final long serialVersionUID = 1;
        final int kind;
        final int place;

        Fault(int kind, int place) {
            this.kind = kind;
            this.place = place;
        }
    }

    // ---- texts

    /** Reads one TOKEN ahead. */
    static final class Text {
        final String text;
        final int most;
        int from;
        int to;
        String token;

        Text(String text, int most) {
            this.text = text;
            this.most = most;
            to = 0;
            next();
        }

        static boolean part(char c) {
            return c >= 'a' && c <= 'z' || c >= '0' && c <= '9';
        }

        void next() {
            int p = to;
            while (p < text.length() && (text.charAt(p) == ' ' || text.charAt(p) == '\n')) {
                p++;
            }
            if (text.length() > most && p >= most) {
                from = most;
                to = most;
                token = "too long";
                return;
            }
            from = p;
            if (p >= text.length()) {
                to = p;
                token = "";
                return;
            }
            int q = p;
            while (q < text.length() && part(text.charAt(q))) {
                q++;
            }
            if (q == p) {
                to = p + 1;
                token = ";<=>+-().".indexOf(text.charAt(p)) >= 0 ? text.substring(p, p + 1) : "no token";
                return;
            }
            String run = text.substring(p, q);
            to = q;
            token = run.matches("[a-z]{1,7}|[0-9]{1,3}") ? run : "no token";
        }

        boolean isEnd() {
            return token.isEmpty();
        }

        boolean is(String what) {
            return token.equals(what);
        }

        boolean isNumber() {
            return token.matches("[0-9]{1,3}");
        }

        boolean isName() {
            return token.matches("[a-z]{1,7}") && !RESERVED.contains(token);
        }

        Fault fault(int kind) {
            return new Fault(kind, from);
        }

        void take(String what) {
            if (!is(what)) {
                throw fault(1);
            }
            next();
        }

        int number(int least, int greatest) {
            if (!isNumber()) {
                throw fault(1);
            }
            int n = Integer.parseInt(token);
            if (n < least || n > greatest) {
                throw fault(2);
            }
            next();
            return n;
        }

        int named(List<String> names) {
            if (!isName()) {
                throw fault(1);
            }
            int n = names.indexOf(token);
            if (n < 0) {
                throw fault(3);
            }
            next();
            return n;
        }

        char sign() {
            if (!is("<") && !is("=") && !is(">")) {
                throw fault(1);
            }
            char c = token.charAt(0);
            next();
            return c;
        }
    }

    static final class World {
        final List<String> sites = new ArrayList<>();
        final List<String> keys = new ArrayList<>();
        final List<String> copies = new ArrayList<>();
        final List<Integer> keySite = new ArrayList<>();
        final List<Integer> keyFirst = new ArrayList<>();
        final List<Integer> workers = new ArrayList<>();
        final List<Boolean> last = new ArrayList<>();
        Integer epoch;
        Integer link;
        int lines;

        String newName(Text t) {
            if (!t.isName()) {
                throw t.fault(1);
            }
            String name = t.token;
            if (sites.contains(name) || keys.contains(name) || copies.contains(name)) {
                throw t.fault(3);
            }
            t.next();
            return name;
        }

        World(Text t) {
            while (!t.isEnd()) {
                line(t);
                t.take(";");
                lines++;
            }
            if (copies.isEmpty()) {
                copies.add("?");
                workers.add(1);
                last.add(false);
            }
            epoch = epoch == null ? Integer.valueOf(5) : epoch;
            link = link == null ? Integer.valueOf(2) : link;
        }

        void line(Text t) {
            String word = t.token;
            if (word.equals("site")) {
                if (sites.size() == 3) {
                    throw t.fault(4);
                }
                t.next();
                sites.add(newName(t));
            } else if (word.equals("key")) {
                if (keys.size() == 10) {
                    throw t.fault(4);
                }
                t.next();
                keys.add(newName(t));
                keySite.add(t.named(sites));
                keyFirst.add(t.number(0, 999));
            } else if (word.equals("copy")) {
                if (copies.size() == 3) {
                    throw t.fault(4);
                }
                t.next();
                copies.add(newName(t));
                workers.add(t.number(1, 4));
                if (!t.is("first") && !t.is("last")) {
                    throw t.fault(1);
                }
                last.add(t.is("last"));
                t.next();
            } else if (word.equals("epoch")) {
                if (epoch != null) {
                    throw t.fault(3);
                }
                t.next();
                epoch = t.number(1, 20);
            } else if (word.equals("link")) {
                if (link != null) {
                    throw t.fault(3);
                }
                t.next();
                link = t.number(0, 9);
            } else {
                throw t.fault(1);
            }
        }
    }

    /** A NUMBER (key and at below 0), a KEY, or the at-th 'at'. */
    static final class Term {
        int number;
        int key = -1;
        int at = -1;
        boolean minus;
    }

    static final class Step {
        boolean need;
        char sign;
        Term ref;
        final List<Term> terms = new ArrayList<>();
    }

    static final class Trans {
        int site;
        List<Step> steps = new ArrayList<>();
        List<Integer> atKeys = new ArrayList<>();

        Trans like(int atSite) {
            Trans t = new Trans();
            t.site = atSite;
            t.steps = steps;
            t.atKeys = atKeys;
            return t;
        }

        static Trans read(Text t, World w, int site) {
            Trans trans = new Trans();
            trans.site = site;
            do {
                if (trans.steps.size() == 6) {
                    trans.tooMany(t, w, t.is("need"));
                }
                trans.steps.add(trans.step(t, w));
                t.take(";");
            } while (!t.isEnd());
            return trans;
        }

        void tooMany(Text t, World w, boolean comes) {
            if (comes || t.is("at")) {
                throw t.fault(4);
            }
            if (t.isName()) {
                throw t.fault(w.keys.contains(t.token) ? 4 : 3);
            }
            throw t.fault(1);
        }

        Step step(Text t, World w) {
            Step s = new Step();
            if (t.is("need")) {
                t.next();
                s.need = true;
                s.ref = ref(t, w);
                s.sign = t.sign();
                s.terms.add(term(t, w));
                return s;
            }
            s.ref = ref(t, w);
            t.take("=");
            s.terms.add(term(t, w));
            while (t.is("+") || t.is("-")) {
                boolean minus = t.is("-");
                t.next();
                if (s.terms.size() == 4) {
                    tooMany(t, w, t.isNumber());
                }
                Term term = term(t, w);
                term.minus = minus;
                s.terms.add(term);
            }
            return s;
        }

        Term term(Text t, World w) {
            if (!t.isNumber()) {
                return ref(t, w);
            }
            Term term = new Term();
            term.number = t.number(0, 999);
            return term;
        }

        Term ref(Text t, World w) {
            Term term = new Term();
            if (t.is("at")) {
                if (atKeys.size() == 4) {
                    throw t.fault(4);
                }
                t.next();
                int key = t.named(w.keys);
                term.at = atKeys.size();
                atKeys.add(key);
            } else {
                term.key = t.named(w.keys);
            }
            return term;
        }
    }

    static final class Line {
        String word;
        int a;
        int b;
    }

    static List<Line> readBook(Text t, World w) {
        List<Line> lines = new ArrayList<>();
        while (!t.isEnd()) {
            Line line = new Line();
            line.word = t.token;
            if (!Arrays.asList("put", "check", "crash", "tick").contains(line.word)) {
                throw t.fault(1);
            }
            if (lines.size() == 40) {
                throw t.fault(4);
            }
            t.next();
            if (line.word.equals("put")) {
                line.a = t.named(w.sites);
                line.b = t.number(0, 23);
            } else if (line.word.equals("crash")) {
                line.a = t.named(w.copies);
            } else if (line.word.equals("tick")) {
                line.a = t.number(1, 60);
            }
            t.take(";");
            lines.add(line);
        }
        return lines;
    }

    /** A SENTENCE as a tree of what may be asked of the ENTRY at a place. */
    final class Said {
        int ones;

        IntPredicate cond(Text t, World w, int depth) {
            IntPredicate left = all(t, w, depth);
            while (t.is("or")) {
                t.next();
                left = left.or(all(t, w, depth));
            }
            return left;
        }

        IntPredicate all(Text t, World w, int depth) {
            IntPredicate left = one(t, w, depth);
            while (t.is("and")) {
                t.next();
                left = left.and(one(t, w, depth));
            }
            return left;
        }

        IntPredicate one(Text t, World w, int depth) {
            String word = t.token;
            List<String> hows = Arrays.asList("waiting", "going", "done", "retried", "stopped");
            boolean starts = hows.contains(word)
                || Arrays.asList("not", "(", "ready", "wide", "reads", "writes", "from", "place", "tries", "trans").contains(word);
            if (!starts) {
                throw t.fault(1);
            }
            if (ones == 20 || depth == 9) {
                throw t.fault(4);
            }
            ones++;
            t.next();
            if (word.equals("not")) {
                return one(t, w, depth + 1).negate();
            }
            if (word.equals("(")) {
                IntPredicate inner = cond(t, w, depth + 1);
                t.take(")");
                return inner;
            }
            if (hows.contains(word)) {
                return i -> db.copies.get(0).how.get(i) == hows.indexOf(word);
            }
            if (word.equals("ready")) {
                return i -> db.readyList(0).contains(i);
            }
            if (word.equals("wide")) {
                return i -> db.order.get(i).wide;
            }
            if (word.equals("reads")) {
                int k = t.named(w.keys);
                return i -> db.order.get(i).reads.contains(k);
            }
            if (word.equals("writes")) {
                int k = t.named(w.keys);
                return i -> db.order.get(i).writes.contains(k);
            }
            if (word.equals("from")) {
                int s = t.named(w.sites);
                return i -> db.site(db.order.get(i)) == s;
            }
            char sign = t.sign();
            int number = t.number(0, 999);
            if (word.equals("place")) {
                return i -> compare(i, sign, number);
            }
            if (word.equals("tries")) {
                return i -> compare(db.entriesOf(db.order.get(i).trans), sign, number);
            }
            return i -> compare(db.order.get(i).trans, sign, number);
        }
    }

    static boolean compare(int a, char sign, int b) {
        return sign == '<' ? a < b : sign == '>' ? a > b : a == b;
    }

    // ---- what is so

    static final class Entry {
        int trans;
        int[] foreseen;
        Set<Integer> reads = new TreeSet<>();
        Set<Integer> writes = new TreeSet<>();
        boolean wide;

        boolean conflicts(Entry other) {
            for (int k : writes) {
                if (other.reads.contains(k) || other.writes.contains(k)) {
                    return true;
                }
            }
            for (int k : other.writes) {
                if (reads.contains(k)) {
                    return true;
                }
            }
            return false;
        }
    }

    static final class Copy {
        int[] values;
        List<Integer> how = new ArrayList<>();
        List<Integer> left = new ArrayList<>();
        List<List<Integer>> rows = new ArrayList<>();

        Copy copy() {
            Copy c = new Copy();
            c.values = values.clone();
            c.how.addAll(how);
            c.left.addAll(left);
            for (List<Integer> row : rows) {
                c.rows.add(new ArrayList<>(row));
            }
            return c;
        }
    }

    static final class Check {
        int point;
        List<Integer> taken = new ArrayList<>();
        Map<Integer, Integer> twins = new HashMap<>();

        Check copy() {
            Check c = new Check();
            c.point = point;
            c.taken.addAll(taken);
            c.twins.putAll(twins);
            return c;
        }
    }

    static final class Db {
        World world;
        List<Trans> transes = new ArrayList<>();
        List<List<Entry>> arrived = new ArrayList<>();
        List<Entry> order = new ArrayList<>();
        Set<Integer> cameAgain = new HashSet<>();
        List<Copy> copies = new ArrayList<>();
        Check check;
        int donePoint;
        int[] doneValues;
        List<Integer> doneHow = new ArrayList<>();
        int tick;

        Db(World w) {
            world = w;
            for (int s = 0; s < w.sites.size(); s++) {
                arrived.add(new ArrayList<>());
            }
            for (int c = 0; c < w.copies.size(); c++) {
                Copy copy = new Copy();
                copy.values = firstValues();
                for (int k = 0; k < w.keys.size(); k++) {
                    copy.rows.add(new ArrayList<>());
                }
                copies.add(copy);
            }
            doneValues = firstValues();
        }

        int[] firstValues() {
            int[] v = new int[world.keys.size()];
            for (int k = 0; k < v.length; k++) {
                v[k] = world.keyFirst.get(k);
            }
            return v;
        }

        Db copy() {
            Db d = new Db(world);
            d.transes.addAll(transes);
            for (int s = 0; s < arrived.size(); s++) {
                d.arrived.get(s).addAll(arrived.get(s));
            }
            d.order.addAll(order);
            d.cameAgain.addAll(cameAgain);
            d.copies.clear();
            for (Copy c : copies) {
                d.copies.add(c.copy());
            }
            d.check = check == null ? null : check.copy();
            d.donePoint = donePoint;
            d.doneValues = doneValues.clone();
            d.doneHow.addAll(doneHow);
            d.takenValues.putAll(takenValues);
            d.tick = tick;
            return d;
        }

        int site(Entry e) {
            return transes.get(e.trans).site;
        }

        int entriesOf(int n) {
            int found = 0;
            for (Entry e : order) {
                found += e.trans == n ? 1 : 0;
            }
            for (List<Entry> at : arrived) {
                for (Entry e : at) {
                    found += e.trans == n ? 1 : 0;
                }
            }
            return found;
        }

        int pointed(int value) {
            int n = world.keys.size();
            return (value % n + n) % n;
        }

        void arrive(int n) {
            Trans t = transes.get(n);
            Entry e = new Entry();
            e.trans = n;
            e.foreseen = new int[t.atKeys.size()];
            for (int j = 0; j < e.foreseen.length; j++) {
                e.foreseen[j] = pointed(copies.get(0).values[t.atKeys.get(j)]);
            }
            e.reads.addAll(t.atKeys);
            for (Step s : t.steps) {
                (s.need ? e.reads : e.writes).add(keyOf(s.ref, e));
                for (Term term : s.terms) {
                    if (term.key >= 0 || term.at >= 0) {
                        e.reads.add(keyOf(term, e));
                    }
                }
            }
            e.reads.removeAll(e.writes);
            Set<Integer> sites = new HashSet<>();
            for (int k : e.reads) {
                sites.add(world.keySite.get(k));
            }
            for (int k : e.writes) {
                sites.add(world.keySite.get(k));
            }
            e.wide = sites.size() > 1;
            arrived.get(t.site).add(e);
        }

        static int keyOf(Term term, Entry e) {
            return term.at >= 0 ? e.foreseen[term.at] : term.key;
        }

        boolean executed(int c, int i) {
            return copies.get(c).how.get(i) >= 2;
        }

        void ask(int c, int i) {
            Entry e = order.get(i);
            Set<Integer> all = new TreeSet<>(e.reads);
            all.addAll(e.writes);
            for (int k : all) {
                copies.get(c).rows.get(k).add(i);
            }
        }

        boolean has(int c, int k, int i) {
            for (int j : copies.get(c).rows.get(k)) {
                if (j == i) {
                    return true;
                }
                if (order.get(i).writes.contains(k) || order.get(j).writes.contains(k)) {
                    return false;
                }
            }
            return false;
        }

        List<Integer> readyList(int c) {
            List<Integer> found = new ArrayList<>();
            for (int i = 0; i < order.size(); i++) {
                if (copies.get(c).how.get(i) != 0) {
                    continue;
                }
                boolean all = true;
                for (int k = 0; k < world.keys.size(); k++) {
                    if (order.get(i).reads.contains(k) || order.get(i).writes.contains(k)) {
                        all &= has(c, k, i);
                    }
                }
                if (all) {
                    found.add(i);
                }
            }
            return found;
        }

        /** How it goes by values, which change if it is DONE. */
        int run(Entry e, int[] values) {
            Trans t = transes.get(e.trans);
            for (int j = 0; j < t.atKeys.size(); j++) {
                if (pointed(values[t.atKeys.get(j)]) != e.foreseen[j]) {
                    return 3;
                }
            }
            Map<Integer, Integer> gave = new LinkedHashMap<>();
            for (Step s : t.steps) {
                int sum = 0;
                for (Term term : s.terms) {
                    int v = term.number;
                    if (term.key >= 0 || term.at >= 0) {
                        int k = keyOf(term, e);
                        v = gave.containsKey(k) ? gave.get(k) : values[k];
                    }
                    sum = term.minus ? sum - v : sum + v;
                }
                int k = keyOf(s.ref, e);
                if (!s.need) {
                    gave.put(k, sum);
                } else if (!compare(gave.containsKey(k) ? gave.get(k) : values[k], s.sign, sum)) {
                    return 4;
                }
            }
            for (int k : gave.keySet()) {
                values[k] = gave.get(k);
            }
            return 2;
        }

        void execute(int c, int i) {
            Entry e = order.get(i);
            Copy copy = copies.get(c);
            int[] ahead = copy.values.clone();
            int how = run(e, copy.values);
            copy.how.set(i, how);
            for (List<Integer> row : copy.rows) {
                row.remove(Integer.valueOf(i));
            }
            if (how == 2 && c == 0 && check != null && i >= check.point) {
                for (int k : e.writes) {
                    if (!check.taken.contains(k)) {
                        check.twins.putIfAbsent(k, ahead[k]);
                    }
                }
            }
            if (how == 3 && c == 0 && cameAgain.add(i)) {
                arrive(e.trans);
            }
        }

        void oneTick() {
            for (int c = 0; c < copies.size(); c++) {
                Copy copy = copies.get(c);
                for (int i = 0; i < order.size(); i++) {
                    if (copy.how.get(i) == 1) {
                        copy.left.set(i, copy.left.get(i) - 1);
                        if (copy.left.get(i) == 0) {
                            execute(c, i);
                        }
                    }
                }
                List<Integer> ready = readyList(c);
                if (world.last.get(c)) {
                    Collections.reverse(ready);
                }
                for (int w = 0; w < world.workers.get(c) && w < ready.size(); w++) {
                    int i = ready.get(w);
                    if (order.get(i).wide && world.link != 0) {
                        copy.how.set(i, 1);
                        copy.left.set(i, world.link);
                    } else {
                        execute(c, i);
                    }
                }
            }
            if (check != null) {
                boolean all = true;
                for (int i = 0; i < check.point; i++) {
                    all &= executed(0, i);
                }
                if (all) {
                    check.taken.add(check.taken.size());
                    lookWhetherChecked();
                }
            }
            if ((tick + 1) % world.epoch == 0) {
                for (List<Entry> at : arrived) {
                    while (!at.isEmpty() && order.size() < 40) {
                        order.add(at.remove(0));
                        for (int c = 0; c < copies.size(); c++) {
                            copies.get(c).how.add(0);
                            copies.get(c).left.add(0);
                            ask(c, order.size() - 1);
                        }
                    }
                }
            }
            tick++;
        }

        /** A twin is the VALUE ahead of all that is written behind POINT; without one nothing was till it was TAKEN. */
        Map<Integer, Integer> takenValues = new HashMap<>();

        void lookWhetherChecked() {
            for (int k : check.taken) {
                if (k == check.taken.size() - 1) {
                    takenValues.put(k, check.twins.containsKey(k) ? check.twins.get(k) : copies.get(0).values[k]);
                }
            }
            if (check.taken.size() == world.keys.size()) {
                donePoint = check.point;
                for (int k = 0; k < doneValues.length; k++) {
                    doneValues[k] = takenValues.get(k);
                }
                doneHow = new ArrayList<>(copies.get(0).how.subList(0, donePoint));
                check = null;
            }
        }

        int beginCheck() {
            if (check != null) {
                return 1;
            }
            check = new Check();
            check.point = order.size();
            takenValues = new HashMap<>();
            if (world.keys.isEmpty()) {
                donePoint = check.point;
                doneHow = new ArrayList<>(copies.get(0).how.subList(0, donePoint));
                check = null;
            }
            return 0;
        }

        int crash(int c) {
            if (order.isEmpty()) {
                return 1;
            }
            Copy copy = copies.get(c);
            copy.values = doneValues.clone();
            for (List<Integer> row : copy.rows) {
                row.clear();
            }
            for (int i = 0; i < order.size(); i++) {
                copy.how.set(i, i < donePoint ? doneHow.get(i) : 0);
                copy.left.set(i, 0);
                if (i >= donePoint) {
                    ask(c, i);
                }
            }
            if (c == 0) {
                check = null;
            }
            return 0;
        }

        int put(int s, int n) {
            if (transes.size() == 24) {
                return 1;
            }
            transes.add(transes.get(n).like(s));
            arrive(transes.size() - 1);
            return 0;
        }

        int ticks(int n) {
            int went = 0;
            while (went < n && tick < 1000) {
                oneTick();
                went++;
            }
            return went;
        }

        int drawn(int n, int seed) {
            int[] x = {seed};
            int went = 0;
            while (went < n && tick < 1000) {
                int act = draw(x, 6);
                if (act == 0 || act == 1) {
                    if (!world.sites.isEmpty() && !transes.isEmpty()) {
                        int s = draw(x, world.sites.size());
                        put(s, draw(x, transes.size()));
                    }
                } else if (act == 2) {
                    int c = draw(x, copies.size());
                    if (draw(x, 4) == 0) {
                        crash(c);
                    }
                } else if (act == 3) {
                    beginCheck();
                }
                oneTick();
                went++;
            }
            return went;
        }

        static int draw(int[] x, int n) {
            x[0] = x[0] * 1103515245 + 12345;
            return (x[0] >>> 8) % n;
        }

        int waitingArrived() {
            int n = 0;
            for (List<Entry> at : arrived) {
                n += at.size();
            }
            return n;
        }

        boolean allExecuted() {
            boolean all = true;
            for (int c = 0; c < copies.size(); c++) {
                for (int i = 0; i < order.size(); i++) {
                    all &= executed(c, i);
                }
            }
            return all;
        }

        boolean same() {
            boolean alike = allExecuted();
            for (Copy c : copies) {
                alike &= Arrays.equals(c.values, copies.get(0).values);
            }
            return alike;
        }

        /** VALUES behind 0, 1, .. ENTRIES. */
        List<int[]> serially() {
            List<int[]> all = new ArrayList<>();
            int[] values = firstValues();
            all.add(values.clone());
            for (Entry e : order) {
                run(e, values);
                all.add(values.clone());
            }
            return all;
        }

        int longest(boolean inTicks) {
            int[] end = new int[order.size()];
            int longest = 0;
            for (int i = 0; i < end.length; i++) {
                for (int j = 0; j < i; j++) {
                    if (order.get(i).conflicts(order.get(j))) {
                        end[i] = Math.max(end[i], end[j]);
                    }
                }
                boolean far = inTicks && order.get(i).wide && world.link != 0;
                end[i] += far ? world.link + 1 : 1;
                longest = Math.max(longest, end[i]);
            }
            return longest;
        }
    }

    // ---- the face

    StringBuilder tape = new StringBuilder();
    int faultKind;
    Db db = new Db(new World(new Text("", 900)));
    IntPredicate sentence;
    List<Db> kept = new ArrayList<>();
    List<Integer> soPlaces;
    int askKey = NONE;
    int[] bookTold;
    Db[] imageDb = new Db[2];
    IntPredicate[] imageSentence = new IntPredicate[2];

    int feed(int a, int b, int c, int d, int e) {
        if (tape.length() > 920) {
            return NONE;
        }
        for (int n : new int[] {a, b, c, d, e}) {
            tape.append((char) (n >>> 24)).append((char) (n >>> 16 & 255)).append((char) (n >>> 8 & 255)).append((char) (n & 255));
        }
        return tape.length();
    }

    boolean end(int n) {
        if (n < 0 || n > tape.length()) {
            return false;
        }
        tape.setLength(n);
        return true;
    }

    String takeTape() {
        String text = tape.toString();
        tape.setLength(0);
        return text;
    }

    int world() {
        faultKind = 0;
        try {
            World w = new World(new Text(takeTape(), 900));
            db = new Db(w);
            kept.clear();
            sentence = null;
            return w.lines;
        } catch (Fault f) {
            faultKind = f.kind;
            return -1 - f.place;
        }
    }

    int fault() {
        return faultKind;
    }

    void keep(Db before) {
        kept.add(before);
        if (kept.size() > 8) {
            kept.remove(0);
        }
    }

    int submit(int s) {
        if (s < 0 || s >= db.world.sites.size() || db.transes.size() == 24) {
            return -1000;
        }
        faultKind = 0;
        try {
            Trans t = Trans.read(new Text(takeTape(), 200), db.world, s);
            keep(db.copy());
            db.transes.add(t);
            db.arrive(db.transes.size() - 1);
            return db.transes.size() - 1;
        } catch (Fault f) {
            faultKind = f.kind;
            return -2 - f.place;
        }
    }

    int put(int s, int n) {
        if (s < 0 || s >= db.world.sites.size() || n < 0 || n >= db.transes.size()) {
            return NONE;
        }
        Db before = db.copy();
        int why = db.put(s, n);
        if (why == 0) {
            keep(before);
        }
        return why;
    }

    int check() {
        Db before = db.copy();
        int why = db.beginCheck();
        if (why == 0) {
            keep(before);
        }
        return why;
    }

    int crash(int c) {
        if (c < 0 || c >= db.copies.size()) {
            return NONE;
        }
        Db before = db.copy();
        int why = db.crash(c);
        if (why == 0) {
            keep(before);
        }
        return why;
    }

    int ticks(int n) {
        if (n < 1 || n > 60) {
            return NONE;
        }
        Db before = db.copy();
        int went = db.ticks(n);
        if (went > 0) {
            keep(before);
        }
        return went;
    }

    int drawn(int n, int seed) {
        if (n < 1 || n > 60) {
            return NONE;
        }
        Db before = db.copy();
        int went = db.drawn(n, seed);
        if (went > 0) {
            keep(before);
        }
        return went;
    }

    int undo() {
        if (kept.isEmpty()) {
            return NONE;
        }
        db = kept.remove(kept.size() - 1);
        return kept.size();
    }

    static int bits(Iterable<Integer> keys) {
        int mask = 0;
        for (int k : keys) {
            mask |= 1 << k;
        }
        return mask;
    }

    int now(int what) {
        switch (what) {
            case 0: return db.tick;
            case 1: return db.transes.size();
            case 2: return db.order.size();
            case 3: return db.waitingArrived();
            case 4: return db.check != null ? 1 : 0;
            case 5: return db.check != null ? db.check.point : NONE;
            case 6: return db.check != null ? bits(db.check.taken) : 0;
            case 7: return db.check != null ? bits(db.check.twins.keySet()) : 0;
            case 8: return db.donePoint;
            default: return NONE;
        }
    }

    boolean noKey(int k) {
        return k < 0 || k >= db.world.keys.size();
    }

    boolean noCopy(int c) {
        return c < 0 || c >= db.copies.size();
    }

    boolean noPlace(int i) {
        return i < 0 || i >= db.order.size();
    }

    int value(int c, int k) {
        if (noCopy(c) || noKey(k)) {
            throw new NoSuchElementException();
        }
        return db.copies.get(c).values[k];
    }

    int key(int k, int what) {
        if (noKey(k) || what < 0 || what > 3) {
            throw new NoSuchElementException();
        }
        switch (what) {
            case 0: return db.world.keySite.get(k);
            case 1: return db.world.keyFirst.get(k);
            case 2: return db.doneValues[k];
            default:
                if (db.check == null || !db.check.twins.containsKey(k)) {
                    throw new NoSuchElementException();
                }
                return db.check.twins.get(k);
        }
    }

    int trans(int n, int what) {
        if (n < 0 || n >= db.transes.size()) {
            return NONE;
        }
        Trans t = db.transes.get(n);
        switch (what) {
            case 0: return t.site;
            case 1: return t.steps.size();
            case 2: return db.entriesOf(n);
            case 3:
                int last = NONE;
                for (int i = 0; i < db.order.size(); i++) {
                    last = db.order.get(i).trans == n ? i : last;
                }
                return last;
            case 4: return t.atKeys.size();
            default: return NONE;
        }
    }

    static int at(List<Integer> list, int i) {
        return i < 0 || i >= list.size() ? NONE : list.get(i);
    }

    int arrived(int s, int i) {
        if (s < 0 || s >= db.arrived.size() || i < 0 || i >= db.arrived.get(s).size()) {
            return NONE;
        }
        return db.arrived.get(s).get(i).trans;
    }

    int entry(int i, int what) {
        if (noPlace(i)) {
            return NONE;
        }
        Entry e = db.order.get(i);
        switch (what) {
            case 0: return e.trans;
            case 1: return db.site(e);
            case 2: return bits(e.reads);
            case 3: return bits(e.writes);
            case 4: return e.wide ? 1 : 0;
            case 5: return (int) db.order.subList(0, i).stream().filter(e::conflicts).count();
            default: return NONE;
        }
    }

    int how(int c, int i) {
        return noCopy(c) || noPlace(i) ? NONE : db.copies.get(c).how.get(i);
    }

    int foreseen(int i, int j) {
        if (noPlace(i) || j < 0 || j >= db.order.get(i).foreseen.length) {
            return NONE;
        }
        return db.order.get(i).foreseen[j];
    }

    int asks(int c, int k, int i) {
        if (noCopy(c) || noKey(k)) {
            return NONE;
        }
        int place = at(db.copies.get(c).rows.get(k), i);
        return place == NONE ? NONE : 2 * place + (db.order.get(place).writes.contains(k) ? 1 : 0);
    }

    int ready(int c, int i) {
        return noCopy(c) ? NONE : at(db.readyList(c), i);
    }

    int waits(int c, int i) {
        if (noCopy(c) || noPlace(i)) {
            return NONE;
        }
        int n = 0;
        for (int j = 0; j < i && db.copies.get(c).how.get(i) == 0; j++) {
            n += !db.executed(c, j) && db.order.get(j).conflicts(db.order.get(i)) ? 1 : 0;
        }
        return n;
    }

    int serial(int k) {
        if (noKey(k)) {
            throw new NoSuchElementException();
        }
        return db.serially().get(db.order.size())[k];
    }

    int same() {
        return db.same() ? 1 : 0;
    }

    int chain() {
        return db.longest(false);
    }

    int least() {
        return db.longest(true);
    }

    int over() {
        Db d = db.copy();
        for (int n = 0; n <= 400; n++) {
            if (d.waitingArrived() == 0 && d.allExecuted()) {
                return n;
            }
            d.oneTick();
        }
        return NONE;
    }

    int so() {
        String pairs = takeTape();
        if (pairs.length() == 0 || pairs.length() % 2 == 1 || pairs.length() > 12) {
            return NONE;
        }
        for (int p = 0; p < pairs.length(); p += 2) {
            if (noKey(pairs.charAt(p))) {
                return NONE;
            }
        }
        List<int[]> serially = db.serially();
        soPlaces = new ArrayList<>();
        for (int m = 0; m < serially.size(); m++) {
            boolean all = true;
            for (int p = 0; p < pairs.length(); p += 2) {
                all &= serially.get(m)[pairs.charAt(p)] == pairs.charAt(p + 1);
            }
            if (all) {
                soPlaces.add(m);
            }
        }
        if (!soPlaces.isEmpty()) {
            int least = Integer.MAX_VALUE;
            for (int k = 0; k < db.world.keys.size(); k++) {
                Map<Integer, Integer> counts = new HashMap<>();
                for (int m : soPlaces) {
                    counts.merge(serially.get(m)[k], 1, Integer::sum);
                }
                int greatest = Collections.max(counts.values());
                if (greatest < least) {
                    least = greatest;
                    askKey = k;
                }
            }
        }
        return soPlaces.size();
    }

    int soAt(int k) {
        return soPlaces == null ? NONE : at(soPlaces, k);
    }

    int ask() {
        return askKey;
    }

    int odds(int n, int seed) {
        if (n < 1 || n > 10) {
            return NONE;
        }
        int found = 0;
        for (int i = 0; i < n; i++) {
            Db d = db.copy();
            d.drawn(30, seed + i);
            found += d.same() ? 1 : 0;
        }
        return found;
    }

    int book(int lives) {
        if (lives != 0 && lives != 1) {
            return -1000;
        }
        faultKind = 0;
        List<Line> lines;
        try {
            lines = readBook(new Text(takeTape(), 400), db.world);
        } catch (Fault f) {
            faultKind = f.kind;
            return -2 - f.place;
        }
        Db d = db.copy();
        int lived = 0;
        int why = 0;
        for (Line line : lines) {
            why = live(d, line);
            if (why != 0) {
                break;
            }
            lived++;
        }
        bookTold = new int[] {why, lived, d.tick, d.order.size()};
        if (lives == 1 && lived > 0) {
            keep(db.copy());
            db = d;
        }
        return why == 0 ? NONE : lived;
    }

    static int live(Db d, Line line) {
        switch (line.word) {
            case "put":
                return line.b >= d.transes.size() ? 9 : d.put(line.a, line.b);
            case "check":
                return d.beginCheck() == 0 ? 0 : 11;
            case "crash":
                return d.crash(line.a) == 0 ? 0 : 21;
            default:
                if (1000 - d.tick < line.a) {
                    return 31;
                }
                d.ticks(line.a);
                return 0;
        }
    }

    int told(int what) {
        return bookTold == null || what < 0 || what > 3 ? NONE : bookTold[what];
    }

    int sentence() {
        faultKind = 0;
        try {
            Said said = new Said();
            Text t = new Text(takeTape(), 200);
            IntPredicate p = said.cond(t, db.world, 1);
            if (!t.isEnd()) {
                throw t.fault(1);
            }
            sentence = p;
            return said.ones;
        } catch (Fault f) {
            faultKind = f.kind;
            return -1 - f.place;
        }
    }

    int said(int k) {
        if (sentence == null) {
            return NONE;
        }
        List<Integer> places = new ArrayList<>();
        for (int i = 0; i < db.order.size(); i++) {
            if (sentence.test(i)) {
                places.add(i);
            }
        }
        return k == NONE ? places.size() : at(places, k);
    }

    boolean image(int k) {
        if (k != 0 && k != 1) {
            return false;
        }
        imageDb[k] = db.copy();
        imageSentence[k] = sentence;
        return true;
    }

    boolean restore(int k) {
        if (k != 0 && k != 1 || imageDb[k] == null) {
            return false;
        }
        db = imageDb[k].copy();
        sentence = imageSentence[k];
        kept.clear();
        return true;
    }

    int count(int what) {
        switch (what) {
            case 0: return db.world.sites.size();
            case 1: return db.world.keys.size();
            case 2: return db.copies.size();
            case 3: return db.world.epoch;
            case 4: return db.world.link;
            case 5: return tape.length();
            default: return NONE;
        }
    }
}
