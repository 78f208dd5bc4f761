import java.util.NoSuchElementException;

/** A database by agreed input, as the project's document tells it; the words in capitals are the document's. */
public final class AgreedInput {
    public static final int NONE = -1;

    private static final int MOST_TAPE = 940;
    private static final int MOST_WORLD = 900;
    private static final int MOST_BOOK = 400;
    private static final int MOST_SHORT = 200;
    private static final int MOST_KEPT = 8;
    private static final int PLACES = 2;
    private static final int TOLD = 4;
    private static final int REFUSED = -1000;

    private final int[] tape = new int[MOST_TAPE];
    private int tapeLength;
    private final Reader reader = new Reader();
    private int faultKind;

    private final State state = new State();
    private final State trial = new State();
    private final World newWorld = new World();

    private final State[] keptStates = new State[MOST_KEPT];
    private int keptNext;
    private int keptCount;

    private final Sentence[] sentences = new Sentence[2];
    private int sentenceNow;

    private final State[] imageStates = new State[PLACES];
    private final Sentence[] imageSentences = new Sentence[PLACES];
    private final boolean[] imageKept = new boolean[PLACES];

    private final Book bookRead = new Book();
    private final int[] bookTold = new int[TOLD];
    private boolean bookJudged;
    private final Search search = new Search();

    public AgreedInput() {
        for (int i = 0; i < MOST_KEPT; i++) {
            keptStates[i] = new State();
        }
        for (int i = 0; i < PLACES; i++) {
            imageStates[i] = new State();
            imageSentences[i] = new Sentence();
            sentences[i] = new Sentence();
        }
    }

    // ---- the tape and its texts

    public int feed(int a, int b, int c, int d, int e) {
        if (tapeLength + 20 > MOST_TAPE) {
            return NONE;
        }
        putBytes(a);
        putBytes(b);
        putBytes(c);
        putBytes(d);
        putBytes(e);
        return tapeLength;
    }

    private void putBytes(int number) {
        for (int shift = 24; shift >= 0; shift -= 8) {
            if (tapeLength < MOST_TAPE) {
                tape[tapeLength] = (number >>> shift) & 255;
                tapeLength++;
            }
        }
    }

    public boolean end(int n) {
        if (n < 0 || n > tapeLength) {
            return false;
        }
        tapeLength = n;
        return true;
    }

    /** Every text is read from here, so the tape is empty behind it, with a FAULT, too. */
    private void readTape(int most) {
        reader.begin(tape, tapeLength, most);
        tapeLength = 0;
        faultKind = 0;
    }

    /** What a text with a FAULT answers: a number less the FAULT's place. */
    private int faultBelow(int number) {
        faultKind = reader.faultKind;
        return number - reader.faultPlace;
    }

    public int fault() {
        return faultKind;
    }

    public int world() {
        readTape(MOST_WORLD);
        int lines = newWorld.read(reader);
        if (lines < 0) {
            return faultBelow(-1);
        }
        state.start(newWorld);
        sentences[sentenceNow].forget();
        forgetKept();
        return lines;
    }

    public int submit(int s) {
        if (s < 0 || s >= state.world.sites || state.scripts.isFull()) {
            return REFUSED;
        }
        readTape(MOST_SHORT);
        if (!state.scripts.read(reader, state.world, s)) {
            return faultBelow(-2);
        }
        keepState();
        return state.arriveNew();
    }

    // ---- acts

    public int put(int s, int n) {
        if (s < 0 || s >= state.world.sites || n < 0 || n >= state.scripts.count) {
            return NONE;
        }
        int why = state.whyNotPut(n);
        if (why == 0) {
            keepState();
            state.putTrans(s, n);
        }
        return why;
    }

    public int check() {
        int why = state.whyNotCheck();
        if (why == 0) {
            keepState();
            state.beginCheck();
        }
        return why;
    }

    public int crash(int c) {
        if (c < 0 || c >= state.world.copies) {
            return NONE;
        }
        int why = state.whyNotCrash();
        if (why == 0) {
            keepState();
            state.crashCopy(c);
        }
        return why;
    }

    public int ticks(int n) {
        if (n < 1 || n > State.MOST_AT_ONCE) {
            return NONE;
        }
        int number = Math.min(n, state.ticksLeft());
        if (number > 0) {
            keepState();
            for (int i = 0; i < number; i++) {
                state.passTick();
            }
        }
        return number;
    }

    public int drawn(int n, int seed) {
        if (n < 1 || n > State.MOST_AT_ONCE) {
            return NONE;
        }
        int number = Math.min(n, state.ticksLeft());
        if (number > 0) {
            keepState();
            state.drawTicks(number, seed);
        }
        return number;
    }

    public int odds(int n, int seed) {
        if (n < 1 || n > 10) {
            return NONE;
        }
        int number = 0;
        for (int i = 0; i < n; i++) {
            trial.copyFrom(state);
            trial.drawTicks(30, seed + i);
            if (trial.isSame()) {
                number++;
            }
        }
        return number;
    }

    public int book(int lives) {
        if (lives != 0 && lives != 1) {
            return REFUSED;
        }
        readTape(MOST_BOOK);
        if (!bookRead.read(reader, state.world)) {
            return faultBelow(-2);
        }
        trial.copyFrom(state);
        int why = 0;
        int lived = 0;
        for (int i = 0; i < bookRead.count && why == 0; i++) {
            why = trial.live(bookRead.kinds[i], bookRead.firsts[i], bookRead.seconds[i]);
            if (why == 0) {
                lived++;
            }
        }
        bookJudged = true;
        bookTold[0] = why;
        bookTold[1] = lived;
        bookTold[2] = trial.tick;
        bookTold[3] = trial.entries.ordered;
        if (lives == 1 && lived > 0) {
            keepState();
            state.copyFrom(trial);
        }
        return why == 0 ? NONE : lived;
    }

    public int told(int what) {
        return bookJudged && what >= 0 && what < TOLD ? bookTold[what] : NONE;
    }

    // ---- acts undone, images

    private void keepState() {
        keptStates[keptNext].copyFrom(state);
        keptNext = keptNext + 1 < MOST_KEPT ? keptNext + 1 : 0;
        keptCount = Math.min(keptCount + 1, MOST_KEPT);
    }

    private void forgetKept() {
        keptCount = 0;
        keptNext = 0;
    }

    public int undo() {
        if (keptCount == 0) {
            return NONE;
        }
        keptNext = keptNext > 0 ? keptNext - 1 : MOST_KEPT - 1;
        keptCount--;
        state.copyFrom(keptStates[keptNext]);
        return keptCount;
    }

    public boolean image(int k) {
        if (k < 0 || k >= PLACES) {
            return false;
        }
        imageStates[k].copyFrom(state);
        imageSentences[k].copyFrom(sentences[sentenceNow]);
        imageKept[k] = true;
        return true;
    }

    public boolean restore(int k) {
        if (k < 0 || k >= PLACES || !imageKept[k]) {
            return false;
        }
        state.copyFrom(imageStates[k]);
        sentences[sentenceNow].copyFrom(imageSentences[k]);
        forgetKept();
        return true;
    }

    // ---- what is so

    public int count(int what) {
        switch (what) {
            case 0: return state.world.sites;
            case 1: return state.world.keys;
            case 2: return state.world.copies;
            case 3: return state.world.epoch;
            case 4: return state.world.link;
            case 5: return tapeLength;
            default: return NONE;
        }
    }

    public int now(int what) {
        Check check = state.check;
        switch (what) {
            case 0: return state.tick;
            case 1: return state.scripts.count;
            case 2: return state.entries.ordered;
            case 3: return state.entries.count - state.entries.ordered;
            case 4: return check.isOn ? 1 : 0;
            case 5: return check.isOn ? check.point : NONE;
            case 6: return check.isOn ? (1 << check.taken) - 1 : 0;
            case 7: return check.isOn ? check.twins : 0;
            case 8: return check.donePoint;
            default: return NONE;
        }
    }

    private boolean isKey(int k) {
        return k >= 0 && k < state.world.keys;
    }

    private boolean isCopy(int c) {
        return c >= 0 && c < state.world.copies;
    }

    private boolean isOrdered(int i) {
        return i >= 0 && i < state.entries.ordered;
    }

    public int value(int c, int k) throws NoSuchElementException {
        if (!isCopy(c) || !isKey(k)) {
            throw new NoSuchElementException();
        }
        return state.copies[c].values[k];
    }

    public int key(int k, int what) throws NoSuchElementException {
        if (!isKey(k) || what < 0 || what > 3 || (what == 3 && !state.check.hasTwin(k))) {
            throw new NoSuchElementException();
        }
        switch (what) {
            case 0: return state.world.keySite[k];
            case 1: return state.world.keyFirst[k];
            case 2: return state.check.doneValues[k];
            default: return state.check.twin[k];
        }
    }

    public int trans(int n, int what) {
        if (n < 0 || n >= state.scripts.count) {
            return NONE;
        }
        switch (what) {
            case 0: return state.scripts.site[n];
            case 1: return state.scripts.steps[n];
            case 2: return state.entries.countOf(n);
            case 3: return state.entries.lastPlaceOf(n);
            case 4: return state.scripts.ats[n];
            default: return NONE;
        }
    }

    public int arrived(int s, int i) {
        if (s < 0 || s >= state.world.sites || i < 0) {
            return NONE;
        }
        int number = 0;
        for (int e = 0; e < state.entries.count; e++) {
            if (state.isArrivedAt(e, s)) {
                if (number == i) {
                    return state.entries.trans[e];
                }
                number++;
            }
        }
        return NONE;
    }

    public int entry(int i, int what) {
        if (!isOrdered(i)) {
            return NONE;
        }
        int e = state.entries.order[i];
        switch (what) {
            case 0: return state.entries.trans[e];
            case 1: return state.siteOf(e);
            case 2: return state.entries.reads[e];
            case 3: return state.entries.writes[e];
            case 4: return state.entries.isWide[e] ? 1 : 0;
            case 5: return state.entries.conflictsAhead(i);
            default: return NONE;
        }
    }

    public int how(int c, int i) {
        return isCopy(c) && isOrdered(i) ? state.copies[c].how[i] : NONE;
    }

    public int foreseen(int i, int j) {
        if (!isOrdered(i) || j < 0) {
            return NONE;
        }
        int e = state.entries.order[i];
        if (j >= state.scripts.ats[state.entries.trans[e]]) {
            return NONE;
        }
        return state.entries.foreseen[e * Scripts.MOST_ATS + j];
    }

    public int asks(int c, int k, int i) {
        return isCopy(c) && isKey(k) && i >= 0 ? state.whoAsks(c, k, i) : NONE;
    }

    public int ready(int c, int i) {
        if (!isCopy(c) || i < 0) {
            return NONE;
        }
        long places = state.readyPlaces(c);
        int number = 0;
        for (int place = 0; place < state.entries.ordered; place++) {
            if (((places >>> place) & 1) == 1) {
                if (number == i) {
                    return place;
                }
                number++;
            }
        }
        return NONE;
    }

    public int waits(int c, int i) {
        return isCopy(c) && isOrdered(i) ? state.countAwaited(c, i) : NONE;
    }

    // ---- what would be so

    public int serial(int k) throws NoSuchElementException {
        if (!isKey(k)) {
            throw new NoSuchElementException();
        }
        return state.valueSerially(k);
    }

    public int same() {
        return state.isSame() ? 1 : 0;
    }

    public int chain() {
        return state.entries.longestRow(1);
    }

    public int least() {
        return state.entries.longestRow(state.world.link + 1);
    }

    public int over() {
        trial.copyFrom(state);
        for (int number = 0; number <= 400; number++) {
            if (trial.isOver()) {
                return number;
            }
            trial.passTick();
        }
        return NONE;
    }

    public int so() {
        int length = tapeLength;
        tapeLength = 0;
        return search.find(state, tape, length);
    }

    public int soAt(int k) {
        return k >= 0 && k < search.found ? search.places[k] : NONE;
    }

    public int ask() {
        return search.bestKey;
    }

    // ---- the SENTENCE

    public int sentence() {
        readTape(MOST_SHORT);
        int other = 1 - sentenceNow;
        if (!sentences[other].read(reader, state.world)) {
            return faultBelow(-1);
        }
        sentenceNow = other;
        return sentences[other].ones;
    }

    public int said(int k) {
        Sentence sentence = sentences[sentenceNow];
        if (!sentence.isTold || k < NONE) {
            return NONE;
        }
        long readyNow = state.readyPlaces(0);
        int number = 0;
        for (int i = 0; i < state.entries.ordered; i++) {
            if (sentence.holds(state, i, ((readyNow >>> i) & 1) == 1)) {
                if (number == k) {
                    return i;
                }
                number++;
            }
        }
        return k == NONE ? number : NONE;
    }

    // ---- texts

    /** Tells a text apart into TOKENS ahead of all judging, so that the place of each is at hand for a FAULT. */
    private static final class Reader {
        static final int BAD = 0;
        static final int END = 1;
        static final int NUMBER = 2;
        static final int NAME = 3;
        static final int FIRST_WORD = 100;
        static final int SITE = 100;
        static final int KEY = 101;
        static final int COPY = 102;
        static final int FIRST = 103;
        static final int LAST = 104;
        static final int EPOCH = 105;
        static final int LINK = 106;
        static final int NEED = 107;
        static final int AT = 108;
        static final int PUT = 109;
        static final int CHECK = 110;
        static final int CRASH = 111;
        static final int TICK = 112;
        static final int OR = 113;
        static final int AND = 114;
        static final int NOT = 115;
        static final int WAITING = 116;
        static final int GOING = 117;
        static final int DONE = 118;
        static final int RETRIED = 119;
        static final int STOPPED = 120;
        static final int READY = 121;
        static final int WIDE = 122;
        static final int READS = 123;
        static final int WRITES = 124;
        static final int FROM = 125;
        static final int PLACE = 126;
        static final int TRIES = 127;
        static final int TRANS = 128;
        /** In the order of the numbers above, a blank behind each; a sign's kind is its own number. */
        static final String WORDS = "site key copy first last epoch link need at put check crash tick or and not waiting going done retried stopped ready wide reads writes from place tries trans ";
        static final String SIGNS = ";<=>+-().";

        final int[] kinds = new int[MOST_TAPE + 1];
        final int[] starts = new int[MOST_TAPE + 1];
        final long[] contents = new long[MOST_TAPE + 1];
        int tokens;
        int here;
        int faultKind;
        int faultPlace;

        void begin(int[] text, int length, int most) {
            tokens = 0;
            here = 0;
            faultKind = 0;
            faultPlace = 0;
            int behind = 0;
            for (int i = 0; i < length && i < most; i++) {
                if (i >= behind && text[i] != 32 && text[i] != 10) {
                    behind = readToken(text, length, i);
                }
            }
            if (length > most) {
                addToken(BAD, most, 0);
            } else {
                addToken(END, length, 0);
            }
        }

        private void addToken(int kind, int start, long content) {
            if (tokens < kinds.length) {
                kinds[tokens] = kind;
                starts[tokens] = start;
                contents[tokens] = content;
                tokens++;
            }
        }

        /** Where the TOKEN ends that begins at a place. */
        private int readToken(int[] text, int length, int start) {
            if (!isLetter(text[start]) && !isDigit(text[start])) {
                addToken(SIGNS.indexOf((char) text[start]) >= 0 ? text[start] : BAD, start, 0);
                return start + 1;
            }
            int letters = 0;
            int digits = 0;
            long number = 0;
            long name = 0;
            int i = start;
            for (; i < length && (isLetter(text[i]) || isDigit(text[i])); i++) {
                if (isDigit(text[i])) {
                    digits++;
                    number = number * 10 + text[i] - '0';
                } else {
                    letters++;
                    name = name * 256 + text[i];
                }
            }
            if (letters == 0 && digits <= 3) {
                addToken(NUMBER, start, number);
            } else if (digits == 0 && letters <= 7) {
                addToken(kindOfWord(name), start, name);
            } else {
                addToken(BAD, start, 0);
            }
            return i;
        }

        private static boolean isLetter(int sign) {
            return sign >= 'a' && sign <= 'z';
        }

        private static boolean isDigit(int sign) {
            return sign >= '0' && sign <= '9';
        }

        private static int kindOfWord(long name) {
            int kind = FIRST_WORD;
            long word = 0;
            for (int i = 0; i < WORDS.length(); i++) {
                char sign = WORDS.charAt(i);
                if (sign != ' ') {
                    word = word * 256 + sign;
                } else if (word == name) {
                    return kind;
                } else {
                    word = 0;
                    kind++;
                }
            }
            return NAME;
        }

        int kind() {
            return here < tokens ? kinds[here] : BAD;
        }

        long content() {
            return here < tokens ? contents[here] : 0;
        }

        void step() {
            if (here + 1 < tokens) {
                here++;
            }
        }

        /** Notes a FAULT at the TOKEN that is next; false, for what could not be read. */
        boolean fail(int kind) {
            faultKind = kind;
            faultPlace = here < tokens ? starts[here] : 0;
            return false;
        }

        boolean take(int kind) {
            if (kind() != kind) {
                return fail(1);
            }
            step();
            return true;
        }

        int takeNumber(int least, int most) {
            if (kind() != NUMBER) {
                fail(1);
                return NONE;
            }
            long number = content();
            if (number < least || number > most) {
                fail(2);
                return NONE;
            }
            step();
            return (int) number;
        }

        /** '<', '=' or '>'. */
        int takeCompare() {
            int kind = kind();
            if (kind != '<' && kind != '=' && kind != '>') {
                fail(1);
                return NONE;
            }
            step();
            return kind;
        }
    }

    /** SITES, KEYS and COPIES as they were told. */
    private static final class World {
        static final int MOST_SITES = 3;
        static final int MOST_KEYS = 10;
        static final int MOST_COPIES = 3;
        /** All NAMES stand in one row: SITES, KEYS, COPIES. */
        static final int FIRST_SITE = 0;
        static final int FIRST_KEY = MOST_SITES;
        static final int FIRST_COPY = FIRST_KEY + MOST_KEYS;
        static final int NAMES = FIRST_COPY + MOST_COPIES;

        int sites;
        int keys;
        int copies;
        int epoch;
        int link;
        final int[] keySite = new int[MOST_KEYS];
        final int[] keyFirst = new int[MOST_KEYS];
        final int[] workers = new int[MOST_COPIES];
        final boolean[] takesLast = new boolean[MOST_COPIES];
        final long[] names = new long[NAMES];

        World() {
            copies = 1;
            workers[0] = 1;
            epoch = 5;
            link = 2;
        }

        void copyFrom(World other) {
            sites = other.sites;
            keys = other.keys;
            copies = other.copies;
            epoch = other.epoch;
            link = other.link;
            for (int k = 0; k < MOST_KEYS; k++) {
                keySite[k] = other.keySite[k];
                keyFirst[k] = other.keyFirst[k];
            }
            for (int c = 0; c < MOST_COPIES; c++) {
                workers[c] = other.workers[c];
                takesLast[c] = other.takesLast[c];
            }
            for (int i = 0; i < NAMES; i++) {
                names[i] = other.names[i];
            }
        }

        /** How many LINES; NONE with a FAULT. */
        int read(Reader reader) {
            sites = 0;
            keys = 0;
            copies = 0;
            epoch = NONE;
            link = NONE;
            for (int i = 0; i < NAMES; i++) {
                names[i] = 0;
            }
            int lines = 0;
            for (int i = 0; i <= MOST_TAPE && reader.kind() != Reader.END; i++) {
                if (!readLine(reader) || !reader.take(';')) {
                    return NONE;
                }
                lines++;
            }
            addUntold();
            return lines;
        }

        private void addUntold() {
            if (copies == 0) {
                copies = 1;
                workers[0] = 1;
                takesLast[0] = false;
            }
            if (epoch == NONE) {
                epoch = 5;
            }
            if (link == NONE) {
                link = 2;
            }
        }

        private boolean readLine(Reader reader) {
            switch (reader.kind()) {
                case Reader.SITE: return readSite(reader);
                case Reader.KEY: return readKey(reader);
                case Reader.COPY: return readCopy(reader);
                case Reader.EPOCH: return readEpoch(reader);
                case Reader.LINK: return readLink(reader);
                default: return reader.fail(1);
            }
        }

        private boolean readSite(Reader reader) {
            if (sites >= MOST_SITES) {
                return reader.fail(4);
            }
            reader.step();
            if (!takeNewName(reader, FIRST_SITE + sites)) {
                return false;
            }
            sites++;
            return true;
        }

        private boolean readKey(Reader reader) {
            if (keys >= MOST_KEYS) {
                return reader.fail(4);
            }
            reader.step();
            if (!takeNewName(reader, FIRST_KEY + keys)) {
                return false;
            }
            int site = takeNamed(reader, FIRST_SITE, sites);
            int first = site < 0 ? NONE : reader.takeNumber(0, 999);
            if (first < 0) {
                return false;
            }
            keySite[keys] = site;
            keyFirst[keys] = first;
            keys++;
            return true;
        }

        private boolean readCopy(Reader reader) {
            if (copies >= MOST_COPIES) {
                return reader.fail(4);
            }
            reader.step();
            if (!takeNewName(reader, FIRST_COPY + copies)) {
                return false;
            }
            int number = reader.takeNumber(1, 4);
            if (number < 0) {
                return false;
            }
            boolean last = reader.kind() == Reader.LAST;
            if (!last && reader.kind() != Reader.FIRST) {
                return reader.fail(1);
            }
            reader.step();
            workers[copies] = number;
            takesLast[copies] = last;
            copies++;
            return true;
        }

        private boolean readEpoch(Reader reader) {
            if (epoch != NONE) {
                return reader.fail(3);
            }
            reader.step();
            epoch = reader.takeNumber(1, 20);
            return epoch >= 0;
        }

        private boolean readLink(Reader reader) {
            if (link != NONE) {
                return reader.fail(3);
            }
            reader.step();
            link = reader.takeNumber(0, 9);
            return link >= 0;
        }

        private boolean takeNewName(Reader reader, int slot) {
            if (reader.kind() != Reader.NAME) {
                return reader.fail(1);
            }
            if (slot < 0 || slot >= NAMES || slotOf(reader.content(), 0, NAMES) >= 0) {
                return reader.fail(3);
            }
            names[slot] = reader.content();
            reader.step();
            return true;
        }

        private int slotOf(long name, int first, int number) {
            for (int i = 0; i < number && first + i < NAMES; i++) {
                if (names[first + i] == name) {
                    return i;
                }
            }
            return NONE;
        }

        /** The number of what is named, of a sort whose NAMES begin at a place; NONE with a FAULT. */
        int takeNamed(Reader reader, int first, int number) {
            if (reader.kind() != Reader.NAME) {
                reader.fail(1);
                return NONE;
            }
            int found = slotOf(reader.content(), first, number);
            if (found < 0) {
                reader.fail(3);
                return NONE;
            }
            reader.step();
            return found;
        }

        boolean isKeyNext(Reader reader) {
            return reader.kind() == Reader.NAME && slotOf(reader.content(), FIRST_KEY, keys) >= 0;
        }

        /** Whether KEYS, as bits, are of more than one SITE. */
        boolean isWide(int mask) {
            int found = NONE;
            for (int k = 0; k < keys; k++) {
                if (((mask >>> k) & 1) == 1) {
                    if (found != NONE && keySite[k] != found) {
                        return true;
                    }
                    found = keySite[k];
                }
            }
            return false;
        }
    }

    /** All TRANS: what their STEPS are, and how these go. */
    private static final class Scripts {
        static final int MOST = 24;
        static final int MOST_STEPS = 6;
        static final int MOST_ATS = 4;
        static final int MOST_TERMS = 4;
        /** A STEP: its sort, its REF, how many TERMS, these. */
        static final int STEP_SIZE = 3 + MOST_TERMS;
        /** The sort of a STEP with TERMS; one with 'need' has its SIGN. */
        static final int GIVES = 0;
        /** A TERM is a NUMBER, or one of these and a KEY or an 'at'; behind a minus -1 less that. */
        static final int KEY_TERM = 1000;
        static final int AT_TERM = 2000;

        int count;
        final int[] site = new int[MOST];
        final int[] steps = new int[MOST];
        final int[] ats = new int[MOST];
        final int[] atKey = new int[MOST * MOST_ATS];
        final int[] code = new int[MOST * MOST_STEPS * STEP_SIZE];

        void copyFrom(Scripts other) {
            count = other.count;
            for (int n = 0; n < count; n++) {
                copyOne(other, n, n);
            }
        }

        private void copyOne(Scripts other, int from, int to) {
            site[to] = other.site[from];
            steps[to] = other.steps[from];
            ats[to] = other.ats[from];
            for (int j = 0; j < MOST_ATS; j++) {
                atKey[to * MOST_ATS + j] = other.atKey[from * MOST_ATS + j];
            }
            int size = MOST_STEPS * STEP_SIZE;
            for (int i = 0; i < size; i++) {
                code[to * size + i] = other.code[from * size + i];
            }
        }

        boolean isFull() {
            return count >= MOST;
        }

        /** The number of a new TRANS with the STEPS of another one. */
        int addLike(int n, int s) {
            if (isFull()) {
                return NONE;
            }
            copyOne(this, n, count);
            site[count] = s;
            return count++;
        }

        /** Reads a TRANS behind all others; it counts only when it is added. */
        boolean read(Reader reader, World world, int s) {
            if (isFull()) {
                return reader.fail(4);
            }
            site[count] = s;
            steps[count] = 0;
            ats[count] = 0;
            for (int i = 0; i <= MOST_STEPS; i++) {
                if (i > 0 && reader.kind() == Reader.END) {
                    return true;
                }
                if (!readStep(reader, world)) {
                    return false;
                }
            }
            return false;
        }

        private boolean readStep(Reader reader, World world) {
            if (steps[count] >= MOST_STEPS) {
                return failOneMore(reader, world, Reader.NEED);
            }
            int from = (count * MOST_STEPS + steps[count]) * STEP_SIZE;
            boolean isRead = reader.kind() == Reader.NEED
                ? readNeed(reader, world, from) : readGives(reader, world, from);
            if (!isRead || !reader.take(';')) {
                return false;
            }
            steps[count]++;
            return true;
        }

        private boolean readNeed(Reader reader, World world, int from) {
            reader.step();
            int ref = readRef(reader, world);
            int sign = ref < 0 ? NONE : reader.takeCompare();
            int term = sign < 0 ? NONE : readTerm(reader, world);
            if (term < 0) {
                return false;
            }
            code[from] = sign;
            code[from + 1] = ref;
            code[from + 2] = 1;
            code[from + 3] = term;
            return true;
        }

        private boolean readGives(Reader reader, World world, int from) {
            int ref = readRef(reader, world);
            if (ref < 0 || !reader.take('=')) {
                return false;
            }
            code[from] = GIVES;
            code[from + 1] = ref;
            boolean isMinus = false;
            for (int i = 0; i < MOST_TERMS; i++) {
                int term = readTerm(reader, world);
                if (term < 0) {
                    return false;
                }
                code[from + 3 + i] = isMinus ? -1 - term : term;
                code[from + 2] = i + 1;
                isMinus = reader.kind() == '-';
                if (!isMinus && reader.kind() != '+') {
                    return true;
                }
                reader.step();
            }
            return failOneMore(reader, world, Reader.NUMBER);
        }

        private int readTerm(Reader reader, World world) {
            return reader.kind() == Reader.NUMBER ? reader.takeNumber(0, 999) : readRef(reader, world);
        }

        private int readRef(Reader reader, World world) {
            if (reader.kind() != Reader.AT) {
                int key = world.takeNamed(reader, World.FIRST_KEY, world.keys);
                return key < 0 ? NONE : KEY_TERM + key;
            }
            int j = ats[count];
            if (j >= MOST_ATS) {
                reader.fail(4);
                return NONE;
            }
            reader.step();
            int key = world.takeNamed(reader, World.FIRST_KEY, world.keys);
            if (key < 0) {
                return NONE;
            }
            atKey[count * MOST_ATS + j] = key;
            ats[count] = j + 1;
            return AT_TERM + j;
        }

        /** A STEP or TERM too many; of FAULTS at one TOKEN the least counts, so what can't come is that ahead. */
        private static boolean failOneMore(Reader reader, World world, int alsoComes) {
            int kind = reader.kind();
            if (kind == alsoComes || kind == Reader.AT || world.isKeyNext(reader)) {
                return reader.fail(4);
            }
            return reader.fail(kind == Reader.NAME ? 3 : 1);
        }

        /** The KEY of a TERM, NONE of a NUMBER; what is FORESEEN for its ENTRY begins at a place. */
        private static int keyOf(int term, int[] foreseen, int first) {
            int plain = term < 0 ? -1 - term : term;
            if (plain < KEY_TERM) {
                return NONE;
            }
            if (plain < AT_TERM) {
                return plain - KEY_TERM;
            }
            int i = first + plain - AT_TERM;
            return i >= 0 && i < foreseen.length ? foreseen[i] : NONE;
        }

        int writesOf(int n, int[] foreseen, int first) {
            int mask = 0;
            for (int s = 0; s < steps[n]; s++) {
                int from = (n * MOST_STEPS + s) * STEP_SIZE;
                int key = keyOf(code[from + 1], foreseen, first);
                if (code[from] == GIVES && key >= 0) {
                    mask |= 1 << key;
                }
            }
            return mask;
        }

        /** All KEYS that it uses ahead of no '=', and all behind an 'at'. */
        int readsOf(int n, int[] foreseen, int first) {
            int mask = 0;
            for (int j = 0; j < ats[n]; j++) {
                mask |= 1 << atKey[n * MOST_ATS + j];
            }
            for (int s = 0; s < steps[n]; s++) {
                int from = (n * MOST_STEPS + s) * STEP_SIZE;
                int key = keyOf(code[from + 1], foreseen, first);
                if (code[from] != GIVES && key >= 0) {
                    mask |= 1 << key;
                }
                for (int i = 0; i < code[from + 2]; i++) {
                    key = keyOf(code[from + 3 + i], foreseen, first);
                    if (key >= 0) {
                        mask |= 1 << key;
                    }
                }
            }
            return mask;
        }

        /** The KEY that the j-th 'at' of a TRANS is by VALUES. */
        int keyAt(int n, int j, int[] values, int keys) {
            return keys > 0 ? Math.floorMod(values[atKey[n * MOST_ATS + j]], keys) : 0;
        }

        /** How a TRANS goes; if it is DONE, gave has VALUES behind it. */
        int run(int n, int[] foreseen, int first, int[] values, int[] gave, int keys) {
            for (int j = 0; j < ats[n]; j++) {
                if (keyAt(n, j, values, keys) != foreseen[first + j]) {
                    return State.RETRIED;
                }
            }
            for (int k = 0; k < keys; k++) {
                gave[k] = values[k];
            }
            for (int s = 0; s < steps[n]; s++) {
                if (!runStep((n * MOST_STEPS + s) * STEP_SIZE, foreseen, first, gave)) {
                    return State.STOPPED;
                }
            }
            return State.DONE;
        }

        private boolean runStep(int from, int[] foreseen, int first, int[] gave) {
            int sum = 0;
            for (int i = 0; i < code[from + 2]; i++) {
                int term = code[from + 3 + i];
                int plain = term < 0 ? -1 - term : term;
                int key = keyOf(plain, foreseen, first);
                int number = key >= 0 && key < gave.length ? gave[key] : plain;
                sum += term < 0 ? -number : number;
            }
            int key = keyOf(code[from + 1], foreseen, first);
            if (key < 0 || key >= gave.length) {
                return false;
            }
            switch (code[from]) {
                case '<': return gave[key] < sum;
                case '=': return gave[key] == sum;
                case '>': return gave[key] > sum;
                default:
                    gave[key] = sum;
                    return true;
            }
        }
    }

    /** All ENTRIES, as they arrived, and the ORDER of those that are in it. */
    private static final class Entries {
        static final int MOST_ORDERED = 40;
        /** Each TRANS arrives once, and once more for each ENTRY of the ORDER that is RETRIED. */
        static final int MOST = Scripts.MOST + MOST_ORDERED;

        int count;
        int ordered;
        final int[] trans = new int[MOST];
        final int[] reads = new int[MOST];
        final int[] writes = new int[MOST];
        final boolean[] isWide = new boolean[MOST];
        final boolean[] isAgain = new boolean[MOST];
        final int[] place = new int[MOST];
        final int[] foreseen = new int[MOST * Scripts.MOST_ATS];
        final int[] order = new int[MOST_ORDERED];
        /** What the longest row counts that ends at a place: of one call alone. */
        private final int[] upTo = new int[MOST_ORDERED];

        void copyFrom(Entries other) {
            count = other.count;
            ordered = other.ordered;
            for (int e = 0; e < count; e++) {
                trans[e] = other.trans[e];
                reads[e] = other.reads[e];
                writes[e] = other.writes[e];
                isWide[e] = other.isWide[e];
                isAgain[e] = other.isAgain[e];
                place[e] = other.place[e];
            }
            for (int i = 0; i < count * Scripts.MOST_ATS; i++) {
                foreseen[i] = other.foreseen[i];
            }
            for (int i = 0; i < ordered; i++) {
                order[i] = other.order[i];
            }
        }

        int countOf(int n) {
            int number = 0;
            for (int e = 0; e < count; e++) {
                if (trans[e] == n) {
                    number++;
                }
            }
            return number;
        }

        int lastPlaceOf(int n) {
            for (int i = ordered - 1; i >= 0; i--) {
                if (trans[order[i]] == n) {
                    return i;
                }
            }
            return NONE;
        }

        private boolean conflict(int i, int j) {
            int e = order[i];
            int f = order[j];
            return (writes[e] & (reads[f] | writes[f])) != 0 || (writes[f] & reads[e]) != 0;
        }

        int conflictsAhead(int i) {
            int number = 0;
            for (int j = 0; j < i; j++) {
                if (conflict(j, i)) {
                    number++;
                }
            }
            return number;
        }

        /** The most that a row of ENTRIES counts in which each CONFLICTS with the one ahead: each 1, a WIDE one so many. */
        int longestRow(int wideCounts) {
            int longest = 0;
            for (int i = 0; i < ordered; i++) {
                int ahead = 0;
                for (int j = 0; j < i; j++) {
                    if (upTo[j] > ahead && conflict(j, i)) {
                        ahead = upTo[j];
                    }
                }
                upTo[i] = ahead + (isWide[order[i]] ? wideCounts : 1);
                longest = Math.max(longest, upTo[i]);
            }
            return longest;
        }
    }

    /** One COPY: its VALUES, how ENTRIES of the ORDER are there, and TICKS that are left to those GOING. */
    private static final class Copy {
        final int[] values = new int[World.MOST_KEYS];
        final int[] how = new int[Entries.MOST_ORDERED];
        final int[] left = new int[Entries.MOST_ORDERED];

        void copyFrom(Copy other, int ordered) {
            for (int k = 0; k < World.MOST_KEYS; k++) {
                values[k] = other.values[k];
            }
            for (int i = 0; i < ordered; i++) {
                how[i] = other.how[i];
                left[i] = other.left[i];
            }
        }

        boolean isExecuted(int i) {
            return how[i] != State.WAITING && how[i] != State.GOING;
        }

        boolean isExecutedAhead(int point) {
            for (int i = 0; i < point && i < how.length; i++) {
                if (!isExecuted(i)) {
                    return false;
                }
            }
            return true;
        }
    }

    /** The CHECK that is on, and the CHECKPOINT that the latest one left. */
    private static final class Check {
        boolean isOn;
        int point;
        int taken;
        int twins;
        final int[] twin = new int[World.MOST_KEYS];
        final int[] takenValues = new int[World.MOST_KEYS];
        int donePoint;
        final int[] doneValues = new int[World.MOST_KEYS];
        final int[] doneHow = new int[Entries.MOST_ORDERED];

        void copyFrom(Check other) {
            isOn = other.isOn;
            point = other.point;
            taken = other.taken;
            twins = other.twins;
            donePoint = other.donePoint;
            for (int k = 0; k < World.MOST_KEYS; k++) {
                twin[k] = other.twin[k];
                takenValues[k] = other.takenValues[k];
                doneValues[k] = other.doneValues[k];
            }
            for (int i = 0; i < donePoint; i++) {
                doneHow[i] = other.doneHow[i];
            }
        }

        void start(World world) {
            isOn = false;
            donePoint = 0;
            for (int k = 0; k < world.keys; k++) {
                doneValues[k] = world.keyFirst[k];
            }
        }

        void begin(int ordered) {
            isOn = true;
            point = ordered;
            taken = 0;
            twins = 0;
        }

        boolean hasTwin(int k) {
            return isOn && ((twins >>> k) & 1) == 1;
        }

        /** An ENTRY at a place of the ORDER writes a KEY in COPY 0 that had a VALUE. */
        void noteWrite(int place, int k, int valueAhead) {
            if (isOn && place >= point && k >= taken && !hasTwin(k)) {
                twins |= 1 << k;
                twin[k] = valueAhead;
            }
        }

        void takeNext(int value) {
            if (taken < World.MOST_KEYS) {
                takenValues[taken] = hasTwin(taken) ? twin[taken] : value;
                taken++;
            }
        }

        void finish(Copy first) {
            donePoint = point;
            for (int k = 0; k < taken && k < World.MOST_KEYS; k++) {
                doneValues[k] = takenValues[k];
            }
            for (int i = 0; i < donePoint; i++) {
                doneHow[i] = first.how[i];
            }
            isOn = false;
        }
    }

    /** All that is so but the SENTENCE and the tape. */
    private static final class State {
        static final int WAITING = 0;
        static final int GOING = 1;
        static final int DONE = 2;
        static final int RETRIED = 3;
        static final int STOPPED = 4;
        static final int LAST_TICK = 1000;
        static final int MOST_AT_ONCE = 60;

        final World world = new World();
        final Scripts scripts = new Scripts();
        final Entries entries = new Entries();
        final Copy[] copies = new Copy[World.MOST_COPIES];
        final Check check = new Check();
        int tick;
        /** What STEPS give, and VALUES behind ENTRIES one behind the other: of one call alone. */
        private final int[] gave = new int[World.MOST_KEYS];
        private final int[] serially = new int[World.MOST_KEYS];
        private int drawSeed;

        State() {
            for (int c = 0; c < World.MOST_COPIES; c++) {
                copies[c] = new Copy();
            }
        }

        void copyFrom(State other) {
            world.copyFrom(other.world);
            scripts.copyFrom(other.scripts);
            entries.copyFrom(other.entries);
            for (int c = 0; c < World.MOST_COPIES; c++) {
                copies[c].copyFrom(other.copies[c], entries.ordered);
            }
            check.copyFrom(other.check);
            tick = other.tick;
        }

        void start(World told) {
            world.copyFrom(told);
            scripts.count = 0;
            entries.count = 0;
            entries.ordered = 0;
            for (int c = 0; c < World.MOST_COPIES; c++) {
                for (int k = 0; k < world.keys; k++) {
                    copies[c].values[k] = world.keyFirst[k];
                }
            }
            check.start(world);
            tick = 0;
        }

        // ---- arriving, EPOCHS

        /** The number of the TRANS that was read last; it arrives. */
        int arriveNew() {
            int n = scripts.count;
            scripts.count++;
            arriveEntry(n);
            return n;
        }

        private void arriveEntry(int n) {
            int e = entries.count;
            if (e >= Entries.MOST) {
                return;
            }
            int first = e * Scripts.MOST_ATS;
            for (int j = 0; j < scripts.ats[n]; j++) {
                entries.foreseen[first + j] = scripts.keyAt(n, j, copies[0].values, world.keys);
            }
            int writes = scripts.writesOf(n, entries.foreseen, first);
            int reads = scripts.readsOf(n, entries.foreseen, first) & ~writes;
            entries.trans[e] = n;
            entries.writes[e] = writes;
            entries.reads[e] = reads;
            entries.isWide[e] = world.isWide(reads | writes);
            entries.isAgain[e] = false;
            entries.place[e] = NONE;
            entries.count++;
        }

        int siteOf(int e) {
            return scripts.site[entries.trans[e]];
        }

        boolean isArrivedAt(int e, int s) {
            return entries.place[e] == NONE && siteOf(e) == s;
        }

        private void endEpoch() {
            for (int s = 0; s < world.sites; s++) {
                for (int e = 0; e < entries.count; e++) {
                    if (isArrivedAt(e, s) && entries.ordered < Entries.MOST_ORDERED) {
                        orderEntry(e);
                    }
                }
            }
        }

        private void orderEntry(int e) {
            int i = entries.ordered;
            entries.order[i] = e;
            entries.place[e] = i;
            for (int c = 0; c < world.copies; c++) {
                copies[c].how[i] = WAITING;
            }
            entries.ordered++;
        }

        // ---- asking for KEYS

        /** Places of the ENTRIES that are READY in a COPY, as bits. */
        long readyPlaces(int c) {
            long places = 0;
            int readAhead = 0;
            int writtenAhead = 0;
            for (int i = 0; i < entries.ordered; i++) {
                if (copies[c].isExecuted(i)) {
                    continue;
                }
                int e = entries.order[i];
                boolean hasAll = (entries.reads[e] & writtenAhead) == 0
                    && (entries.writes[e] & (readAhead | writtenAhead)) == 0;
                if (hasAll && copies[c].how[i] == WAITING) {
                    places |= 1L << i;
                }
                readAhead |= entries.reads[e];
                writtenAhead |= entries.writes[e];
            }
            return places;
        }

        int whoAsks(int c, int k, int number) {
            int ahead = 0;
            for (int i = 0; i < entries.ordered; i++) {
                int e = entries.order[i];
                int writes = (entries.writes[e] >>> k) & 1;
                int reads = (entries.reads[e] >>> k) & 1;
                if (writes + reads > 0 && !copies[c].isExecuted(i)) {
                    if (ahead == number) {
                        return 2 * i + writes;
                    }
                    ahead++;
                }
            }
            return NONE;
        }

        int countAwaited(int c, int i) {
            if (copies[c].how[i] != WAITING) {
                return 0;
            }
            int number = 0;
            for (int j = 0; j < i; j++) {
                if (!copies[c].isExecuted(j) && entries.conflict(j, i)) {
                    number++;
                }
            }
            return number;
        }

        // ---- TICKS

        int ticksLeft() {
            return Math.max(0, LAST_TICK - tick);
        }

        void passTick() {
            for (int c = 0; c < world.copies; c++) {
                passGoing(c);
                takeReady(c);
            }
            if (check.isOn && copies[0].isExecutedAhead(check.point)) {
                takeCheckKey();
            }
            if (world.epoch > 0 && (tick + 1) % world.epoch == 0) {
                endEpoch();
            }
            tick++;
        }

        private void passGoing(int c) {
            for (int i = 0; i < entries.ordered; i++) {
                if (copies[c].how[i] == GOING) {
                    copies[c].left[i]--;
                    if (copies[c].left[i] <= 0) {
                        execute(c, i);
                    }
                }
            }
        }

        private void takeReady(int c) {
            long places = readyPlaces(c);
            int free = world.workers[c];
            for (int i = 0; i < entries.ordered && free > 0; i++) {
                int place = world.takesLast[c] ? entries.ordered - 1 - i : i;
                if (((places >>> place) & 1) == 1) {
                    free--;
                    if (world.link > 0 && entries.isWide[entries.order[place]]) {
                        copies[c].how[place] = GOING;
                        copies[c].left[place] = world.link;
                    } else {
                        execute(c, place);
                    }
                }
            }
        }

        private void execute(int c, int i) {
            int e = entries.order[i];
            int n = entries.trans[e];
            int[] values = copies[c].values;
            int how = scripts.run(n, entries.foreseen, e * Scripts.MOST_ATS, values, gave, world.keys);
            copies[c].how[i] = how;
            if (how == DONE) {
                writeGiven(c, i);
            }
            if (how == RETRIED && c == 0 && !entries.isAgain[e]) {
                entries.isAgain[e] = true;
                arriveEntry(n);
            }
        }

        private void writeGiven(int c, int i) {
            int writes = entries.writes[entries.order[i]];
            for (int k = 0; k < world.keys; k++) {
                if (((writes >>> k) & 1) == 1) {
                    if (c == 0) {
                        check.noteWrite(i, k, copies[0].values[k]);
                    }
                    copies[c].values[k] = gave[k];
                }
            }
        }

        private void takeCheckKey() {
            if (check.taken < world.keys) {
                check.takeNext(copies[0].values[check.taken]);
            }
            if (check.taken >= world.keys) {
                check.finish(copies[0]);
            }
        }

        // ---- PUT, CHECK, CRASH, and why not: 0 is that it can be

        int whyNotPut(int n) {
            if (n < 0 || n >= scripts.count) {
                return 9;
            }
            return scripts.isFull() ? 1 : 0;
        }

        void putTrans(int s, int n) {
            int added = scripts.addLike(n, s);
            if (added >= 0) {
                arriveEntry(added);
            }
        }

        int whyNotCheck() {
            return check.isOn ? 1 : 0;
        }

        void beginCheck() {
            check.begin(entries.ordered);
            if (world.keys == 0) {
                check.finish(copies[0]);
            }
        }

        int whyNotCrash() {
            return entries.ordered == 0 ? 1 : 0;
        }

        void crashCopy(int c) {
            Copy copy = copies[c];
            for (int k = 0; k < world.keys; k++) {
                copy.values[k] = check.doneValues[k];
            }
            for (int i = 0; i < entries.ordered; i++) {
                copy.how[i] = i < check.donePoint ? check.doneHow[i] : WAITING;
            }
            if (c == 0) {
                check.isOn = false;
            }
        }

        /** Lives a LINE of a BOOK: 0, or why it is WRONG; then all stays. */
        int live(int kind, int a, int b) {
            int why;
            switch (kind) {
                case Reader.PUT:
                    why = whyNotPut(b);
                    if (why == 0) {
                        putTrans(a, b);
                    }
                    return why;
                case Reader.CHECK:
                    if (whyNotCheck() != 0) {
                        return 11;
                    }
                    beginCheck();
                    return 0;
                case Reader.CRASH:
                    if (whyNotCrash() != 0) {
                        return 21;
                    }
                    crashCopy(a);
                    return 0;
                default:
                    if (a > ticksLeft()) {
                        return 31;
                    }
                    for (int i = 0; i < a; i++) {
                        passTick();
                    }
                    return 0;
            }
        }

        // ---- DRAWN

        void drawTicks(int number, int seed) {
            drawSeed = seed;
            for (int i = 0; i < number && ticksLeft() > 0; i++) {
                drawAct();
                passTick();
            }
        }

        /** One of so many, from 0. */
        private int drawOf(int number) {
            drawSeed = drawSeed * 1103515245 + 12345;
            return number > 0 ? (drawSeed >>> 8) % number : 0;
        }

        private void drawAct() {
            int act = drawOf(6);
            if (act < 2) {
                if (world.sites > 0 && scripts.count > 0) {
                    int s = drawOf(world.sites);
                    int n = drawOf(scripts.count);
                    putTrans(s, n);
                }
            } else if (act == 2) {
                int c = drawOf(world.copies);
                if (drawOf(4) == 0 && whyNotCrash() == 0) {
                    crashCopy(c);
                }
            } else if (act == 3 && whyNotCheck() == 0) {
                beginCheck();
            }
        }

        // ---- all of it

        private boolean isAllExecuted() {
            for (int c = 0; c < world.copies; c++) {
                if (!copies[c].isExecutedAhead(entries.ordered)) {
                    return false;
                }
            }
            return true;
        }

        boolean isOver() {
            return entries.count == entries.ordered && isAllExecuted();
        }

        boolean isSame() {
            if (!isAllExecuted()) {
                return false;
            }
            for (int c = 1; c < world.copies; c++) {
                for (int k = 0; k < world.keys; k++) {
                    if (copies[c].values[k] != copies[0].values[k]) {
                        return false;
                    }
                }
            }
            return true;
        }

        /** VALUES as told are where ENTRIES one behind the other go on from. */
        void beginSerially(int[] values) {
            for (int k = 0; k < world.keys; k++) {
                values[k] = world.keyFirst[k];
            }
        }

        void runSerially(int i, int[] values) {
            int e = entries.order[i];
            int how = scripts.run(entries.trans[e], entries.foreseen, e * Scripts.MOST_ATS, values, gave, world.keys);
            if (how == DONE) {
                for (int k = 0; k < world.keys; k++) {
                    values[k] = gave[k];
                }
            }
        }

        int valueSerially(int k) {
            beginSerially(serially);
            for (int i = 0; i < entries.ordered; i++) {
                runSerially(i, serially);
            }
            return serially[k];
        }
    }

    /** A BOOK: its LINES, each with a WORD and up to two numbers. */
    private static final class Book {
        static final int MOST = 40;

        int count;
        final int[] kinds = new int[MOST];
        final int[] firsts = new int[MOST];
        final int[] seconds = new int[MOST];

        boolean read(Reader reader, World world) {
            count = 0;
            for (int i = 0; i <= MOST && reader.kind() != Reader.END; i++) {
                if (!readLine(reader, world) || !reader.take(';')) {
                    return false;
                }
                count++;
            }
            return true;
        }

        private boolean readLine(Reader reader, World world) {
            int kind = reader.kind();
            if (kind != Reader.PUT && kind != Reader.CHECK && kind != Reader.CRASH && kind != Reader.TICK) {
                return reader.fail(1);
            }
            if (count >= MOST) {
                return reader.fail(4);
            }
            reader.step();
            int first = 0;
            int second = 0;
            if (kind == Reader.PUT) {
                first = world.takeNamed(reader, World.FIRST_SITE, world.sites);
                second = first < 0 ? NONE : reader.takeNumber(0, Scripts.MOST - 1);
            } else if (kind == Reader.CRASH) {
                first = world.takeNamed(reader, World.FIRST_COPY, world.copies);
            } else if (kind == Reader.TICK) {
                first = reader.takeNumber(1, State.MOST_AT_ONCE);
            }
            kinds[count] = kind;
            firsts[count] = first;
            seconds[count] = second;
            return first >= 0 && second >= 0;
        }
    }

    /** A SENTENCE: what it asks, each behind what it is made of, to be said of ENTRIES of the ORDER. */
    private static final class Sentence {
        static final int MOST_ONES = 20;
        static final int MOST_WITHIN = 8;
        /** So many ONES, and 'and' or 'or' between them. */
        static final int MOST_PARTS = 2 * MOST_ONES;

        boolean isTold;
        int ones;
        private int parts;
        private final int[] kinds = new int[MOST_PARTS];
        private final int[] signs = new int[MOST_PARTS];
        private final int[] numbers = new int[MOST_PARTS];

        void forget() {
            isTold = false;
            ones = 0;
            parts = 0;
        }

        void copyFrom(Sentence other) {
            isTold = other.isTold;
            ones = other.ones;
            parts = other.parts;
            for (int i = 0; i < parts; i++) {
                kinds[i] = other.kinds[i];
                signs[i] = other.signs[i];
                numbers[i] = other.numbers[i];
            }
        }

        boolean read(Reader reader, World world) {
            forget();
            if (!readCond(reader, world, 1) || !reader.take(Reader.END)) {
                return false;
            }
            isTold = true;
            return true;
        }

        private boolean add(int kind, int sign, int number) {
            if (parts >= MOST_PARTS || number < 0) {
                return false;
            }
            kinds[parts] = kind;
            signs[parts] = sign;
            numbers[parts] = number;
            parts++;
            return true;
        }

        private boolean readCond(Reader reader, World world, int depth) {
            if (!readAll(reader, world, depth)) {
                return false;
            }
            for (int i = 0; i < MOST_TAPE && reader.kind() == Reader.OR; i++) {
                reader.step();
                if (!readAll(reader, world, depth) || !add(Reader.OR, 0, 0)) {
                    return false;
                }
            }
            return true;
        }

        private boolean readAll(Reader reader, World world, int depth) {
            if (!readOne(reader, world, depth)) {
                return false;
            }
            for (int i = 0; i < MOST_TAPE && reader.kind() == Reader.AND; i++) {
                reader.step();
                if (!readOne(reader, world, depth) || !add(Reader.AND, 0, 0)) {
                    return false;
                }
            }
            return true;
        }

        private boolean readOne(Reader reader, World world, int depth) {
            int kind = reader.kind();
            if (kind != '(' && (kind < Reader.NOT || kind > Reader.TRANS)) {
                return reader.fail(1);
            }
            if (ones >= MOST_ONES || depth > MOST_WITHIN) {
                return reader.fail(4);
            }
            ones++;
            reader.step();
            switch (kind) {
                case '(':
                    return readCond(reader, world, depth + 1) && reader.take(')');
                case Reader.NOT:
                    return readOne(reader, world, depth + 1) && add(Reader.NOT, 0, 0);
                case Reader.READS:
                case Reader.WRITES:
                    return add(kind, 0, world.takeNamed(reader, World.FIRST_KEY, world.keys));
                case Reader.FROM:
                    return add(kind, 0, world.takeNamed(reader, World.FIRST_SITE, world.sites));
                case Reader.PLACE:
                case Reader.TRIES:
                case Reader.TRANS:
                    return readCompared(reader, kind);
                default:
                    return add(kind, 0, 0);
            }
        }

        private boolean readCompared(Reader reader, int kind) {
            int sign = reader.takeCompare();
            return sign >= 0 && add(kind, sign, reader.takeNumber(0, 999));
        }

        /** Whether it may be said of the ENTRY at a place of the ORDER. */
        boolean holds(State state, int i, boolean isReady) {
            // what is not joined yet, the latest in the lowest bit
            long open = 0;
            for (int p = 0; p < parts; p++) {
                long top = open & 1;
                switch (kinds[p]) {
                    case Reader.NOT:
                        open ^= 1;
                        break;
                    case Reader.AND:
                        open = (open >>> 1) & (top == 1 ? -1L : -2L);
                        break;
                    case Reader.OR:
                        open = (open >>> 1) | top;
                        break;
                    default:
                        open = (open << 1) | (isSo(p, state, i, isReady) ? 1 : 0);
                        break;
                }
            }
            return (open & 1) == 1;
        }

        private boolean isSo(int p, State state, int i, boolean isReady) {
            int e = state.entries.order[i];
            int how = state.copies[0].how[i];
            switch (kinds[p]) {
                case Reader.WAITING: return how == State.WAITING;
                case Reader.GOING: return how == State.GOING;
                case Reader.DONE: return how == State.DONE;
                case Reader.RETRIED: return how == State.RETRIED;
                case Reader.STOPPED: return how == State.STOPPED;
                case Reader.READY: return isReady;
                case Reader.WIDE: return state.entries.isWide[e];
                case Reader.READS: return ((state.entries.reads[e] >>> numbers[p]) & 1) == 1;
                case Reader.WRITES: return ((state.entries.writes[e] >>> numbers[p]) & 1) == 1;
                case Reader.FROM: return state.siteOf(e) == numbers[p];
                case Reader.PLACE: return compares(i, p);
                case Reader.TRIES: return compares(state.entries.countOf(state.entries.trans[e]), p);
                default: return compares(state.entries.trans[e], p);
            }
        }

        private boolean compares(int number, int p) {
            switch (signs[p]) {
                case '<': return number < numbers[p];
                case '>': return number > numbers[p];
                default: return number == numbers[p];
            }
        }
    }

    /** Behind how many ENTRIES, one behind the other, KEYS had just such VALUES. */
    private static final class Search {
        static final int MOST_PAIRS = 6;

        int found;
        final int[] places = new int[Entries.MOST_ORDERED + 1];
        int bestKey;
        private final int[] values = new int[World.MOST_KEYS];
        /** VALUES behind each of the places found. */
        private final int[] valuesThere = new int[(Entries.MOST_ORDERED + 1) * World.MOST_KEYS];

        Search() {
            bestKey = NONE;
        }

        int find(State state, int[] tape, int length) {
            if (!isTold(state.world, tape, length)) {
                return NONE;
            }
            found = 0;
            state.beginSerially(values);
            noteIfSo(0, tape, length);
            for (int i = 0; i < state.entries.ordered; i++) {
                state.runSerially(i, values);
                noteIfSo(i + 1, tape, length);
            }
            if (found > 0) {
                bestKey = chooseKey(state.world.keys);
            }
            return found;
        }

        private static boolean isTold(World world, int[] tape, int length) {
            if (length < 2 || length > 2 * MOST_PAIRS || length % 2 != 0) {
                return false;
            }
            for (int i = 0; i < length; i += 2) {
                if (tape[i] >= world.keys) {
                    return false;
                }
            }
            return true;
        }

        private void noteIfSo(int place, int[] tape, int length) {
            for (int i = 0; i + 1 < length; i += 2) {
                if (values[tape[i]] != tape[i + 1]) {
                    return;
                }
            }
            places[found] = place;
            for (int k = 0; k < World.MOST_KEYS; k++) {
                valuesThere[found * World.MOST_KEYS + k] = values[k];
            }
            found++;
        }

        /** The KEY whose VALUES there are the most unlike, by the greatest number of like ones. */
        private int chooseKey(int keys) {
            int best = NONE;
            int bestMost = found + 1;
            for (int k = 0; k < keys; k++) {
                int most = 0;
                for (int i = 0; i < found; i++) {
                    most = Math.max(most, countLike(k, i));
                }
                if (most < bestMost) {
                    best = k;
                    bestMost = most;
                }
            }
            return best;
        }

        private int countLike(int k, int i) {
            int number = 0;
            for (int j = 0; j < found; j++) {
                if (valuesThere[j * World.MOST_KEYS + k] == valuesThere[i * World.MOST_KEYS + k]) {
                    number++;
                }
            }
            return number;
        }
    }
}
