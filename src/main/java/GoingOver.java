import java.util.NoSuchElementException;

public final class GoingOver {
    public static final int NONE = -1;

    private static final int PERSONS_MOST = 5;
    private static final int ITEMS_MOST = 10;
    private static final int JOINS_MOST = 16;
    private static final int HIGH_MOST = 30;
    private static final int DAYS_IN_ALL = 400;
    private static final int DAYS_AT_ONCE = 60;

    private static final int READY = 0;
    private static final int HANGING = 1;
    private static final int POOLED = 2;
    private static final int OUT = 3;

    private static final int CANT_COME = 1;
    private static final int BAD_NUMBER = 2;
    private static final int BAD_NAME = 3;
    private static final int TOO_MANY = 4;

    // The words that no NAME may be; their places in this row are the numbers below it.
    private static final String KEYWORDS = "falls rain person item join goes frees unload load bind day or and not ready hanging pooled out whole has weight parts straw number";
    private static final int KEYWORDS_IN_ALL = 24;
    private static final int W_FALLS = 0;
    private static final int W_RAIN = 1;
    private static final int W_PERSON = 2;
    private static final int W_ITEM = 3;
    private static final int W_JOIN = 4;
    private static final int W_GOES = 5;
    private static final int W_FREES = 6;
    private static final int W_UNLOAD = 7;
    private static final int W_LOAD = 8;
    private static final int W_BIND = 9;
    private static final int W_DAY = 10;
    private static final int W_OR = 11;
    private static final int W_AND = 12;
    private static final int W_NOT = 13;
    private static final int W_READY = 14;
    private static final int W_HANGING = 15;
    private static final int W_POOLED = 16;
    private static final int W_OUT = 17;
    private static final int W_WHOLE = 18;
    private static final int W_HAS = 19;
    private static final int W_WEIGHT = 20;
    private static final int W_PARTS = 21;
    private static final int W_STRAW = 22;
    private static final int W_NUMBER = 23;

    private final Tape tape;
    private final Course course;
    private final Course trial;
    private final Past past;
    private final Book book;
    private final Parts parts;
    private final Heights heights;
    private final Draws draws;
    private final Tag tag;
    private final Image[] images;
    private final int[] told;
    private Falls falls;
    private Falls spareFalls;
    private Sentence sentence;
    private Sentence spareSentence;
    private int fault;
    private int lightened;
    private int kept;
    private int lowestHigh;
    private int watched;

    public GoingOver() {
        tape = new Tape();
        falls = new Falls();
        spareFalls = new Falls();
        course = new Course();
        trial = new Course();
        past = new Past();
        book = new Book();
        parts = new Parts();
        heights = new Heights();
        draws = new Draws();
        tag = new Tag();
        sentence = new Sentence();
        spareSentence = new Sentence();
        images = new Image[2];
        images[0] = new Image();
        images[1] = new Image();
        told = new int[4];
        told[0] = NONE;
        told[1] = NONE;
        told[2] = NONE;
        told[3] = NONE;
        lightened = NONE;
        kept = NONE;
        lowestHigh = NONE;
        watched = NONE;
    }

    public int feed(int a, int b, int c, int d, int e) {
        if (tape.length + 20 > Tape.MOST) {
            return NONE;
        }
        tape.put(a);
        tape.put(b);
        tape.put(c);
        tape.put(d);
        tape.put(e);
        return tape.length;
    }

    public boolean end(int n) {
        if (n < 0 || n > tape.length) {
            return false;
        }
        tape.length = n;
        return true;
    }

    public int falls() {
        int lines = spareFalls.read(tape);
        fault = tape.fault;
        tape.length = 0;
        if (fault != 0) {
            return -1 - tape.place;
        }
        Falls before = falls;
        falls = spareFalls;
        spareFalls = before;
        course.begin(falls);
        sentence.size = 0;
        past.size = 0;
        return lines;
    }

    public int fault() {
        return fault;
    }

    public int person(int p, int what) throws NoSuchElementException {
        if (!falls.hasPerson(p)) {
            throw new NoSuchElementException("no such person");
        }
        switch (what) {
            case 0:
                return falls.straw[p];
            case 1:
                return course.how[p];
            case 2:
                return course.weight(falls, p);
            case 3:
                return parts.asTheyAre(falls, course, p);
            case 4:
                return course.inside & falls.itemsOf(p);
            case 5:
                return falls.itemsOf(p);
            default:
                throw new NoSuchElementException("no such thing of a person");
        }
    }

    public int item(int i, int what) {
        if (!falls.hasItem(i)) {
            return NONE;
        }
        switch (what) {
            case 0:
                return falls.owner[i];
            case 1:
                return falls.weight[i];
            case 2:
                return course.hasInside(i) ? 1 : 0;
            case 3:
                return falls.joinsAt(i);
            case 4:
                parts.hold(falls, falls.joinsHolding(falls.owner[i], course.broken, 0));
                return Parts.leastOf(parts.around(i, course.inside));
            default:
                return NONE;
        }
    }

    public int join(int j, int what) {
        if (!falls.hasJoin(j)) {
            return NONE;
        }
        switch (what) {
            case 0:
                return falls.joinFirst[j];
            case 1:
                return falls.joinSecond[j];
            case 2:
                return falls.joinHolds[j];
            case 3:
                return course.isWhole(j) ? 1 : 0;
            default:
                return NONE;
        }
    }

    public int now(int what) {
        switch (what) {
            case 0:
                return course.day;
            case 1:
                return falls.flowOn(course.day);
            case 2:
                return course.whoAre(falls, READY);
            case 3:
                return course.whoAre(falls, HANGING);
            case 4:
                return course.whoAre(falls, POOLED);
            case 5:
                return course.whoAre(falls, OUT);
            case 6:
                return course.broken;
            case 7:
                return course.dropped;
            default:
                return NONE;
        }
    }

    public int go(int p) {
        return falls.hasPerson(p) ? act(W_GOES, p) : NONE;
    }

    public int free(int p) {
        return falls.hasPerson(p) ? act(W_FREES, p) : NONE;
    }

    public int unload(int i) {
        return falls.hasItem(i) ? act(W_UNLOAD, i) : NONE;
    }

    public int load(int i) {
        return falls.hasItem(i) ? act(W_LOAD, i) : NONE;
    }

    public int bind(int j) {
        return falls.hasJoin(j) ? act(W_BIND, j) : NONE;
    }

    private int act(int deed, int on) {
        trial.copy(course);
        int why = trial.attempt(falls, deed, on);
        if (why == 0) {
            past.push(course);
            course.copy(trial);
        }
        return why;
    }

    public int days(int n) {
        if (n < 1 || n > DAYS_AT_ONCE) {
            return NONE;
        }
        if (course.day >= DAYS_IN_ALL) {
            return 0;
        }
        past.push(course);
        int first = course.day;
        for (int k = 0; k < n && course.day < DAYS_IN_ALL; k++) {
            course.passDay(falls);
        }
        return course.day - first;
    }

    public int undo() {
        return past.pop(course);
    }

    public int fate(int p) {
        return falls.hasPerson(p) ? parts.byFate(falls, course, p) : NONE;
    }

    public int straw(int p) {
        if (!canStillDrop(p)) {
            return NONE;
        }
        int inside = course.inside & falls.itemsOf(p);
        for (int s = 0; s < falls.high; s++) {
            parts.hold(falls, falls.joinsHolding(p, course.broken, falls.high - s));
            if (parts.number(inside) == 1) {
                return s;
            }
        }
        return NONE;
    }

    private boolean canStillDrop(int p) {
        return falls.hasPerson(p) && course.how[p] <= HANGING;
    }

    public int lighten(int p) {
        if (!canStillDrop(p)) {
            return NONE;
        }
        int most = falls.flowOn(course.day);
        lightened = falls.fewestOut(course.inside & falls.itemsOf(p), most);
        return Integer.bitCount(lightened);
    }

    public int lightened() {
        return lightened;
    }

    public int keep(int p) {
        if (!canStillDrop(p)) {
            return NONE;
        }
        int inside = course.inside & falls.itemsOf(p);
        parts.holdByFate(falls, course, p);
        kept = parts.heaviestWhole(falls, inside, falls.flowOn(course.day));
        return falls.weightOf(kept);
    }

    public int keeps() {
        return kept;
    }

    public int apart(int i, int k) {
        if (!falls.hasItem(i) || !falls.hasItem(k) || i == k) {
            return NONE;
        }
        int p = falls.owner[i];
        if (falls.owner[k] != p || !course.hasInside(i) || !course.hasInside(k)) {
            return NONE;
        }
        parts.holdByFate(falls, course, p);
        return (parts.around(i, course.inside) >> k & 1) == 0 ? 1 : 0;
    }

    public int crack(int p) {
        if (!falls.hasPerson(p)) {
            return NONE;
        }
        int weakest = NONE;
        for (int j = 0; j < falls.joins; j++) {
            if (falls.ownerOfJoin(j) == p && course.isWhole(j)
                && (weakest == NONE || falls.joinHolds[j] < falls.joinHolds[weakest])) {
                weakest = j;
            }
        }
        return weakest;
    }

    public int drops(int p) {
        if (!falls.hasPerson(p) || course.how[p] != HANGING) {
            return NONE;
        }
        int weight = course.weight(falls, p);
        for (int k = 1; k <= 99; k++) {
            if (weight <= falls.flowOn(course.day + k)) {
                return k;
            }
        }
        return NONE;
    }

    public int who() {
        int length = tape.length;
        tape.length = 0;
        if (length < 1 || length > 6) {
            return NONE;
        }
        int found = 0;
        for (int p = 0; p < falls.persons; p++) {
            parts.holdByFate(falls, course, p);
            if (parts.weighJustSo(falls, course.inside & falls.itemsOf(p), tape.bytes, length)) {
                found |= 1 << p;
            }
        }
        return found;
    }

    public int heights() {
        int length = tape.length;
        tape.length = 0;
        if (length < 2 || length > 10 || length % 2 != 0) {
            return NONE;
        }
        for (int k = 0; k < length; k += 2) {
            if (!falls.hasPerson(tape.bytes[k])) {
                return NONE;
            }
        }
        heights.fill(falls, course, parts);
        int highs = heights.agreeing(tape.bytes, length);
        if (highs != 0) {
            lowestHigh = Heights.leastOf(highs);
            watched = heights.bestWatched(highs, falls.persons);
        }
        return Integer.bitCount(highs);
    }

    public int lowest() {
        return lowestHigh;
    }

    public int watch() {
        return watched;
    }

    public int heaviest() {
        int best = NONE;
        int most = NONE;
        for (int p = 0; p < falls.persons; p++) {
            int weight = course.weight(falls, p);
            if (weight > most) {
                most = weight;
                best = p;
            }
        }
        return best;
    }

    public int mean(int p, int what) throws NoSuchElementException {
        if (!falls.hasPerson(p)) {
            throw new NoSuchElementException("no such person");
        }
        int above = course.weight(falls, p);
        int below = Integer.bitCount(course.inside & falls.itemsOf(p));
        if (below == 0) {
            throw new NoSuchElementException("nothing is in the barrel");
        }
        int common = commonOf(above, below);
        switch (what) {
            case 0:
                return above / common;
            case 1:
                return below / common;
            default:
                throw new NoSuchElementException("no such number of a fraction");
        }
    }

    // Never 0, so that it may divide.
    private static int commonOf(int above, int below) {
        for (int d = below; d > 1; d--) {
            if (above % d == 0 && below % d == 0) {
                return d;
            }
        }
        return 1;
    }

    public int tag(int p) {
        if (!falls.hasPerson(p)) {
            return NONE;
        }
        tag.write(falls.personName[p], course.how[p], parts.asTheyAre(falls, course, p));
        return tag.length;
    }

    public int byteAt(int i) {
        return i >= 0 && i < tag.length ? tag.bytes[i] : NONE;
    }

    public int drawn(int n, int seed) {
        if (n < 1 || n > DAYS_AT_ONCE) {
            return NONE;
        }
        if (course.day >= DAYS_IN_ALL) {
            return 0;
        }
        past.push(course);
        return draws.live(falls, course, n, seed);
    }

    public int odds(int p, int n, int seed) {
        if (!falls.hasPerson(p) || n < 1 || n > 30) {
            return NONE;
        }
        int good = 0;
        for (int k = 0; k < n; k++) {
            trial.copy(course);
            draws.live(falls, trial, 20, seed + k);
            if (trial.how[p] >= POOLED && parts.asTheyAre(falls, trial, p) == 1) {
                good++;
            }
        }
        return good;
    }

    public int book(int lives) {
        if (lives != 0 && lives != 1) {
            return -1000;
        }
        book.read(tape, falls);
        fault = tape.fault;
        tape.length = 0;
        if (fault != 0) {
            return -2 - tape.place;
        }
        trial.copy(course);
        int lived = book.live(falls, trial);
        told[0] = book.why;
        told[1] = lived;
        told[2] = trial.day;
        told[3] = trial.broken;
        if (lives == 1 && lived > 0) {
            past.push(course);
            course.copy(trial);
        }
        return book.why == 0 ? NONE : lived;
    }

    public int told(int what) {
        return what >= 0 && what < 4 ? told[what] : NONE;
    }

    public int sentence() {
        spareSentence.read(tape, falls);
        fault = tape.fault;
        tape.length = 0;
        if (fault != 0) {
            return -1 - tape.place;
        }
        Sentence before = sentence;
        sentence = spareSentence;
        spareSentence = before;
        return sentence.ones;
    }

    public int said(int k) {
        if (sentence.size == 0 || k < NONE) {
            return NONE;
        }
        int found = 0;
        for (int p = 0; p < falls.persons; p++) {
            if (sentence.holdsOf(falls, course, parts, p)) {
                if (found == k) {
                    return p;
                }
                found++;
            }
        }
        return k == NONE ? found : NONE;
    }

    public boolean image(int k) {
        if (k < 0 || k > 1) {
            return false;
        }
        Image image = images[k];
        image.falls.copy(falls);
        image.course.copy(course);
        image.sentence.copy(sentence);
        image.taken = true;
        return true;
    }

    public boolean restore(int k) {
        if (k < 0 || k > 1 || !images[k].taken) {
            return false;
        }
        Image image = images[k];
        falls.copy(image.falls);
        course.copy(image.course);
        sentence.copy(image.sentence);
        past.size = 0;
        return true;
    }

    public int count(int what) {
        switch (what) {
            case 0:
                return falls.persons;
            case 1:
                return falls.items;
            case 2:
                return falls.joins;
            case 3:
                return falls.high;
            case 4:
                return falls.flow;
            case 5:
                return tape.length;
            default:
                return NONE;
        }
    }

    /** The bytes that were fed, and the TOKENS that are read along them. */
    private static final class Tape {
        static final int MOST = 940;
        private static final int AT_END = 0;
        private static final int NO_TOKEN = 1;
        private static final int NUMBER = 2;
        private static final int NAME = 3;
        private static final int KEYWORD = 4;
        private static final int MARK = 5;

        final int[] bytes = new int[MOST];
        int length;
        int fault;
        int place;
        private boolean tooLong;
        private int tokens;
        private int at;
        private final int[] kinds = new int[MOST + 1];
        private final int[] starts = new int[MOST + 1];
        private final int[] values = new int[MOST + 1];
        private final long[] words = new long[MOST + 1];
        private final long[] keywords = new long[KEYWORDS_IN_ALL];

        Tape() {
            int k = 0;
            for (int c = 0; c < KEYWORDS.length(); c++) {
                char letter = KEYWORDS.charAt(c);
                if (letter == ' ') {
                    k++;
                } else if (k < KEYWORDS_IN_ALL) {
                    keywords[k] = longer(keywords[k], letter);
                }
            }
        }

        // A WORD is a number of five bits a letter, so that names are kept and compared without texts.
        private static long longer(long word, int letter) {
            return word << 5 | letter - 'a' + 1;
        }

        void put(int number) {
            for (int shift = 24; shift >= 0 && length < MOST; shift -= 8) {
                bytes[length] = number >>> shift & 255;
                length++;
            }
        }

        // All TOKENS are read ahead, so that the calls of the readers of texts stay few within one another.
        void begin(int most) {
            int stop = Math.min(length, most);
            tooLong = length > most;
            fault = 0;
            place = 0;
            tokens = 0;
            at = 0;
            int b = 0;
            while (b < stop) {
                b = Math.max(b + 1, readToken(b));
            }
            add(AT_END, stop, NONE, 0);
        }

        private int readToken(int b) {
            int c = bytes[b];
            if (c == ' ' || c == '\n') {
                return b + 1;
            }
            if (isSmall(c) || isDigit(c)) {
                return readRun(b);
            }
            boolean mark = c == ';' || c == '(' || c == ')' || isSign(c);
            add(mark ? MARK : NO_TOKEN, b, c, 0);
            return b + 1;
        }

        private int readRun(int first) {
            int small = 0;
            int digits = 0;
            int number = 0;
            long word = 0;
            int b = first;
            for (; b < length && (isSmall(bytes[b]) || isDigit(bytes[b])); b++) {
                if (isSmall(bytes[b])) {
                    small++;
                    word = longer(word, bytes[b]);
                } else {
                    digits++;
                    number = number * 10 + bytes[b] - '0';
                }
            }
            if (small == 0 && digits <= 3) {
                add(NUMBER, first, number, 0);
            } else if (digits == 0 && small <= 7) {
                int keyword = keywordOf(word);
                add(keyword == NONE ? NAME : KEYWORD, first, keyword, word);
            } else {
                add(NO_TOKEN, first, NONE, 0);
            }
            return b;
        }

        private int keywordOf(long word) {
            for (int k = 0; k < KEYWORDS_IN_ALL; k++) {
                if (keywords[k] == word) {
                    return k;
                }
            }
            return NONE;
        }

        private void add(int kind, int start, int value, long word) {
            if (tokens <= MOST) {
                kinds[tokens] = kind;
                starts[tokens] = start;
                values[tokens] = value;
                words[tokens] = word;
                tokens++;
            }
        }

        private static boolean isSmall(int c) {
            return c >= 'a' && c <= 'z';
        }

        private static boolean isDigit(int c) {
            return c >= '0' && c <= '9';
        }

        private static boolean isSign(int c) {
            return c == '<' || c == '=' || c == '>';
        }

        boolean fail(int what) {
            fault = what;
            place = starts[at];
            return false;
        }

        // The end is never left, so that there is always a TOKEN to look at.
        void advance() {
            if (at + 1 < tokens) {
                at++;
            }
        }

        boolean atEnd() {
            return kinds[at] == AT_END;
        }

        boolean atMark(int mark) {
            return kinds[at] == MARK && values[at] == mark;
        }

        boolean atName() {
            return kinds[at] == NAME;
        }

        int keyword() {
            return kinds[at] == KEYWORD ? values[at] : NONE;
        }

        long name() {
            return words[at];
        }

        // Bytes beyond the most are a FAULT even where they are blanks.
        boolean finish() {
            return atEnd() && !tooLong || fail(CANT_COME);
        }

        boolean takeMark(int mark) {
            if (!atMark(mark)) {
                return fail(CANT_COME);
            }
            advance();
            return true;
        }

        int takeSign() {
            int sign = values[at];
            if (kinds[at] != MARK || !isSign(sign)) {
                fail(CANT_COME);
                return NONE;
            }
            advance();
            return sign;
        }

        int takeNumber(int low, int high) {
            int number = values[at];
            if (kinds[at] != NUMBER) {
                fail(CANT_COME);
                return NONE;
            }
            if (number < low || number > high) {
                fail(BAD_NUMBER);
                return NONE;
            }
            advance();
            return number;
        }
    }

    /** What the text of the FALLS tells. */
    private static final class Falls {
        private static final int BYTES_MOST = 900;
        private static final int LINES_MOST = 2 + PERSONS_MOST + ITEMS_MOST + JOINS_MOST;

        int persons;
        int items;
        int joins;
        int high = 10;
        int flow = 20;
        final int[] straw = new int[PERSONS_MOST];
        final long[] personName = new long[PERSONS_MOST];
        final long[] itemName = new long[ITEMS_MOST];
        final int[] owner = new int[ITEMS_MOST];
        final int[] weight = new int[ITEMS_MOST];
        final int[] joinFirst = new int[JOINS_MOST];
        final int[] joinSecond = new int[JOINS_MOST];
        final int[] joinHolds = new int[JOINS_MOST];
        private boolean fallsTold;
        // 0 while no rain was told.
        private int every;
        private int rain;

        private void clear() {
            persons = 0;
            items = 0;
            joins = 0;
            high = 10;
            flow = 20;
            fallsTold = false;
            every = 0;
            rain = 0;
        }

        void copy(Falls from) {
            persons = from.persons;
            items = from.items;
            joins = from.joins;
            high = from.high;
            flow = from.flow;
            fallsTold = from.fallsTold;
            every = from.every;
            rain = from.rain;
            System.arraycopy(from.straw, 0, straw, 0, PERSONS_MOST);
            System.arraycopy(from.personName, 0, personName, 0, PERSONS_MOST);
            System.arraycopy(from.itemName, 0, itemName, 0, ITEMS_MOST);
            System.arraycopy(from.owner, 0, owner, 0, ITEMS_MOST);
            System.arraycopy(from.weight, 0, weight, 0, ITEMS_MOST);
            System.arraycopy(from.joinFirst, 0, joinFirst, 0, JOINS_MOST);
            System.arraycopy(from.joinSecond, 0, joinSecond, 0, JOINS_MOST);
            System.arraycopy(from.joinHolds, 0, joinHolds, 0, JOINS_MOST);
        }

        boolean hasPerson(int p) {
            return p >= 0 && p < persons;
        }

        boolean hasItem(int i) {
            return i >= 0 && i < items;
        }

        boolean hasJoin(int j) {
            return j >= 0 && j < joins;
        }

        int flowOn(int day) {
            return every > 0 && day % every == 0 ? flow + rain : flow;
        }

        int itemsOf(int p) {
            int bits = 0;
            for (int i = 0; i < items; i++) {
                if (owner[i] == p) {
                    bits |= 1 << i;
                }
            }
            return bits;
        }

        int weightOf(int bits) {
            int sum = 0;
            for (int i = 0; i < items; i++) {
                if ((bits >> i & 1) != 0) {
                    sum += weight[i];
                }
            }
            return sum;
        }

        int joinsAt(int i) {
            int bits = 0;
            for (int j = 0; j < joins; j++) {
                if (joinFirst[j] == i || joinSecond[j] == i) {
                    bits |= 1 << j;
                }
            }
            return bits;
        }

        int ownerOfJoin(int j) {
            return owner[joinFirst[j]];
        }

        int joinsHolding(int p, int broken, int least) {
            int bits = 0;
            for (int j = 0; j < joins; j++) {
                if ((broken >> j & 1) == 0 && joinHolds[j] >= least && ownerOfJoin(j) == p) {
                    bits |= 1 << j;
                }
            }
            return bits;
        }

        // Bits go upwards, so that of like ones the least stays.
        int fewestOut(int inside, int most) {
            int needed = weightOf(inside) - most;
            int best = inside;
            int bestNumber = Integer.bitCount(inside);
            int bestWeight = weightOf(inside);
            for (int bits = 0; bits < 1 << items; bits++) {
                int number = Integer.bitCount(bits);
                if ((bits & ~inside) != 0 || number > bestNumber) {
                    continue;
                }
                int sum = weightOf(bits);
                if (sum >= needed && (number < bestNumber || sum < bestWeight)) {
                    best = bits;
                    bestNumber = number;
                    bestWeight = sum;
                }
            }
            return best;
        }

        int read(Tape text) {
            clear();
            text.begin(BYTES_MOST);
            int lines = 0;
            while (lines <= LINES_MOST && !text.atEnd()) {
                if (!readLine(text)) {
                    return NONE;
                }
                lines++;
            }
            text.finish();
            return lines;
        }

        private boolean readLine(Tape text) {
            switch (text.keyword()) {
                case W_FALLS:
                    return readFalls(text) && text.takeMark(';');
                case W_RAIN:
                    return readRain(text) && text.takeMark(';');
                case W_PERSON:
                    return readPerson(text) && text.takeMark(';');
                case W_ITEM:
                    return readItem(text) && text.takeMark(';');
                case W_JOIN:
                    return readJoin(text) && text.takeMark(';');
                default:
                    return text.fail(CANT_COME);
            }
        }

        private boolean readFalls(Tape text) {
            if (fallsTold) {
                return text.fail(BAD_NAME);
            }
            text.advance();
            fallsTold = true;
            high = text.takeNumber(1, HIGH_MOST);
            if (high == NONE) {
                return false;
            }
            flow = text.takeNumber(1, 99);
            return flow != NONE;
        }

        private boolean readRain(Tape text) {
            if (every > 0) {
                return text.fail(BAD_NAME);
            }
            text.advance();
            every = text.takeNumber(1, 9);
            if (every == NONE) {
                return false;
            }
            rain = text.takeNumber(1, 99);
            return rain != NONE;
        }

        private boolean readPerson(Tape text) {
            if (persons >= PERSONS_MOST) {
                return text.fail(TOO_MANY);
            }
            text.advance();
            if (!isNewName(text)) {
                return false;
            }
            personName[persons] = text.name();
            text.advance();
            straw[persons] = text.takeNumber(0, 9);
            if (straw[persons] == NONE) {
                return false;
            }
            persons++;
            return true;
        }

        private boolean readItem(Tape text) {
            if (items >= ITEMS_MOST) {
                return text.fail(TOO_MANY);
            }
            text.advance();
            if (!isNewName(text)) {
                return false;
            }
            itemName[items] = text.name();
            text.advance();
            owner[items] = takePerson(text);
            if (owner[items] == NONE) {
                return false;
            }
            weight[items] = text.takeNumber(1, 20);
            if (weight[items] == NONE) {
                return false;
            }
            items++;
            return true;
        }

        private boolean readJoin(Tape text) {
            if (joins >= JOINS_MOST) {
                return text.fail(TOO_MANY);
            }
            text.advance();
            int first = takeItem(text);
            if (first == NONE) {
                return false;
            }
            int second = text.atName() ? itemNamed(text.name()) : NONE;
            if (second != NONE && !mayBeJoined(first, second)) {
                return text.fail(BAD_NAME);
            }
            if (takeItem(text) == NONE) {
                return false;
            }
            joinFirst[joins] = first;
            joinSecond[joins] = second;
            joinHolds[joins] = text.takeNumber(1, 30);
            if (joinHolds[joins] == NONE) {
                return false;
            }
            joins++;
            return true;
        }

        private boolean mayBeJoined(int first, int second) {
            return first != second && owner[first] == owner[second]
                && (joinsAt(first) & joinsAt(second)) == 0;
        }

        private boolean isNewName(Tape text) {
            if (!text.atName()) {
                return text.fail(CANT_COME);
            }
            if (personNamed(text.name()) != NONE || itemNamed(text.name()) != NONE) {
                return text.fail(BAD_NAME);
            }
            return true;
        }

        int takePerson(Tape text) {
            return taken(text, text.atName() ? personNamed(text.name()) : NONE);
        }

        int takeItem(Tape text) {
            return taken(text, text.atName() ? itemNamed(text.name()) : NONE);
        }

        private static int taken(Tape text, int found) {
            if (found != NONE) {
                text.advance();
                return found;
            }
            text.fail(text.atName() ? BAD_NAME : CANT_COME);
            return NONE;
        }

        int personNamed(long name) {
            for (int p = 0; p < persons; p++) {
                if (personName[p] == name) {
                    return p;
                }
            }
            return NONE;
        }

        private int itemNamed(long name) {
            for (int i = 0; i < items; i++) {
                if (itemName[i] == name) {
                    return i;
                }
            }
            return NONE;
        }
    }

    /** All that is so and changes by acts and DAYS. */
    private static final class Course {
        int day;
        int inside;
        int broken;
        int dropped;
        final int[] how = new int[PERSONS_MOST];

        void begin(Falls falls) {
            day = 0;
            inside = (1 << falls.items) - 1;
            broken = 0;
            dropped = 0;
            for (int p = 0; p < PERSONS_MOST; p++) {
                how[p] = READY;
            }
        }

        void copy(Course from) {
            day = from.day;
            inside = from.inside;
            broken = from.broken;
            dropped = from.dropped;
            System.arraycopy(from.how, 0, how, 0, PERSONS_MOST);
        }

        boolean hasInside(int i) {
            return (inside >> i & 1) != 0;
        }

        boolean isWhole(int j) {
            return (broken >> j & 1) == 0;
        }

        int weight(Falls falls, int p) {
            int sum = 0;
            for (int i = 0; i < falls.items; i++) {
                if (falls.owner[i] == p && (inside >> i & 1) != 0) {
                    sum += falls.weight[i];
                }
            }
            return sum;
        }

        int whoAre(Falls falls, int so) {
            int bits = 0;
            for (int p = 0; p < falls.persons; p++) {
                if (how[p] == so) {
                    bits |= 1 << p;
                }
            }
            return bits;
        }

        /** Does the deed if it can be done: 0, or why not, as the document numbers it. */
        int attempt(Falls falls, int deed, int on) {
            switch (deed) {
                case W_GOES:
                    return letGo(falls, on);
                case W_FREES:
                    return letOut(on);
                case W_UNLOAD:
                    return takeOut(falls, on);
                case W_LOAD:
                    return putIn(falls, on);
                default:
                    return makeWhole(falls, on);
            }
        }

        int letGo(Falls falls, int p) {
            if (how[p] != READY) {
                return 1;
            }
            how[p] = HANGING;
            dropIfLight(falls, p);
            return 0;
        }

        int letOut(int p) {
            if (how[p] != POOLED) {
                return 1;
            }
            how[p] = OUT;
            return 0;
        }

        int takeOut(Falls falls, int i) {
            int p = falls.owner[i];
            if (!hasInside(i)) {
                return 1;
            }
            if (how[p] >= POOLED) {
                return 2;
            }
            inside &= ~(1 << i);
            broken |= falls.joinsAt(i);
            dropIfLight(falls, p);
            return 0;
        }

        int putIn(Falls falls, int i) {
            if (hasInside(i)) {
                return 1;
            }
            if (how[falls.owner[i]] != READY) {
                return 2;
            }
            inside |= 1 << i;
            return 0;
        }

        int makeWhole(Falls falls, int j) {
            if (isWhole(j)) {
                return 1;
            }
            if (!hasInside(falls.joinFirst[j]) || !hasInside(falls.joinSecond[j])) {
                return 2;
            }
            if (how[falls.ownerOfJoin(j)] != READY) {
                return 3;
            }
            broken &= ~(1 << j);
            return 0;
        }

        /** The JOINS of one that would be whole, if he DROPPED now from so high, or are, if he did. */
        int holdingAt(Falls falls, int p, int high) {
            return falls.joinsHolding(p, broken, how[p] >= POOLED ? 0 : high - falls.straw[p]);
        }

        void passDay(Falls falls) {
            day++;
            for (int p = 0; p < falls.persons; p++) {
                dropIfLight(falls, p);
            }
        }

        private void dropIfLight(Falls falls, int p) {
            if (how[p] != HANGING || weight(falls, p) > falls.flowOn(day)) {
                return;
            }
            for (int j = 0; j < falls.joins; j++) {
                if (falls.ownerOfJoin(j) == p && falls.joinHolds[j] < falls.high - falls.straw[p]) {
                    broken |= 1 << j;
                }
            }
            how[p] = POOLED;
            dropped++;
        }
    }

    /** What was so ahead of the latest acts, the oldest of them falling out behind eight. */
    private static final class Past {
        private static final int MOST = 8;

        int size;
        private int first;
        private final Course[] courses = new Course[MOST];

        Past() {
            for (int k = 0; k < MOST; k++) {
                courses[k] = new Course();
            }
        }

        void push(Course now) {
            courses[(first + size) % MOST].copy(now);
            if (size < MOST) {
                size++;
            } else {
                first = (first + 1) % MOST;
            }
        }

        int pop(Course into) {
            if (size == 0) {
                return NONE;
            }
            size--;
            into.copy(courses[(first + size) % MOST]);
            return size;
        }
    }

    /** Which ITEMS some JOINS hold together: hold() chooses the JOINS, the others ask. */
    private static final class Parts {
        private final int[] near = new int[ITEMS_MOST];

        void hold(Falls falls, int holding) {
            for (int i = 0; i < ITEMS_MOST; i++) {
                near[i] = 0;
            }
            for (int j = 0; j < falls.joins; j++) {
                if ((holding >> j & 1) != 0) {
                    near[falls.joinFirst[j]] |= 1 << falls.joinSecond[j];
                    near[falls.joinSecond[j]] |= 1 << falls.joinFirst[j];
                }
            }
        }

        void holdByFate(Falls falls, Course course, int p) {
            hold(falls, course.holdingAt(falls, p, falls.high));
        }

        int byFate(Falls falls, Course course, int p) {
            holdByFate(falls, course, p);
            return number(course.inside & falls.itemsOf(p));
        }

        int asTheyAre(Falls falls, Course course, int p) {
            hold(falls, falls.joinsHolding(p, course.broken, 0));
            return number(course.inside & falls.itemsOf(p));
        }

        int around(int i, int among) {
            int part = 1 << i;
            for (int round = 0; round < ITEMS_MOST; round++) {
                int wider = part;
                for (int k = 0; k < ITEMS_MOST; k++) {
                    if ((part >> k & 1) != 0) {
                        wider |= near[k] & among;
                    }
                }
                if (wider == part) {
                    return part;
                }
                part = wider;
            }
            return part;
        }

        static int leastOf(int items) {
            for (int i = 0; i < ITEMS_MOST; i++) {
                if ((items >> i & 1) != 0) {
                    return i;
                }
            }
            return NONE;
        }

        int number(int among) {
            int left = among;
            int found = 0;
            for (int i = 0; i < ITEMS_MOST; i++) {
                if ((left >> i & 1) != 0) {
                    left &= ~around(i, among);
                    found++;
                }
            }
            return found;
        }

        // Bits go upwards, so that of like ones the least stays.
        int heaviestWhole(Falls falls, int inside, int most) {
            int best = 0;
            int bestWeight = 0;
            for (int bits = 1; bits < 1 << falls.items; bits++) {
                if ((bits & ~inside) != 0) {
                    continue;
                }
                int sum = falls.weightOf(bits);
                if (sum > bestWeight && sum <= most && around(leastOf(bits), bits) == bits) {
                    best = bits;
                    bestWeight = sum;
                }
            }
            return best;
        }

        boolean weighJustSo(Falls falls, int inside, int[] weights, int length) {
            int left = inside;
            int used = 0;
            for (int i = 0; i < ITEMS_MOST; i++) {
                if ((left >> i & 1) != 0) {
                    int part = around(i, inside);
                    left &= ~part;
                    int place = unusedPlace(weights, length, used, falls.weightOf(part));
                    if (place == NONE) {
                        return false;
                    }
                    used |= 1 << place;
                }
            }
            return used == (1 << length) - 1;
        }

        private static int unusedPlace(int[] weights, int length, int used, int weight) {
            for (int k = 0; k < length; k++) {
                if ((used >> k & 1) == 0 && weights[k] == weight) {
                    return k;
                }
            }
            return NONE;
        }
    }

    /** In how many PARTS each PERSON would be by each HIGH; sets of HIGHS are bits 1 to 30. */
    private static final class Heights {
        private final int[][] partsBy = new int[PERSONS_MOST][HIGH_MOST + 1];

        void fill(Falls falls, Course course, Parts parts) {
            for (int p = 0; p < falls.persons; p++) {
                int inside = course.inside & falls.itemsOf(p);
                int before = NONE;
                for (int high = 1; high <= HIGH_MOST; high++) {
                    int holding = course.holdingAt(falls, p, high);
                    if (holding == before) {
                        partsBy[p][high] = partsBy[p][high - 1];
                    } else {
                        parts.hold(falls, holding);
                        partsBy[p][high] = parts.number(inside);
                        before = holding;
                    }
                }
            }
        }

        int agreeing(int[] pairs, int length) {
            int highs = 0;
            for (int high = 1; high <= HIGH_MOST; high++) {
                boolean all = true;
                for (int k = 0; k + 1 < length; k += 2) {
                    all = all && partsBy[pairs[k]][high] == pairs[k + 1];
                }
                if (all) {
                    highs |= 1 << high;
                }
            }
            return highs;
        }

        static int leastOf(int highs) {
            for (int high = 1; high <= HIGH_MOST; high++) {
                if ((highs >> high & 1) != 0) {
                    return high;
                }
            }
            return NONE;
        }

        int bestWatched(int highs, int persons) {
            int best = NONE;
            int bestLeft = HIGH_MOST + 1;
            for (int p = 0; p < persons; p++) {
                int left = mostLeft(highs, p);
                if (left < bestLeft) {
                    bestLeft = left;
                    best = p;
                }
            }
            return best;
        }

        private int mostLeft(int highs, int p) {
            int most = 0;
            for (int number = 0; number <= ITEMS_MOST; number++) {
                int left = 0;
                for (int high = 1; high <= HIGH_MOST; high++) {
                    if ((highs >> high & 1) != 0 && partsBy[p][high] == number) {
                        left++;
                    }
                }
                most = left > most ? left : most;
            }
            return most;
        }
    }

    /** DAYS by draws from a seed. */
    private static final class Draws {
        private int x;

        int live(Falls falls, Course course, int days, int seed) {
            x = seed;
            int lived = 0;
            while (lived < days && course.day < DAYS_IN_ALL) {
                liveDay(falls, course);
                lived++;
            }
            return lived;
        }

        private void liveDay(Falls falls, Course course) {
            for (int p = 0; p < falls.persons; p++) {
                int of8 = next(8);
                if (of8 == 0) {
                    course.letGo(falls, p);
                } else if (of8 == 1) {
                    course.letOut(p);
                }
            }
            int of4 = next(4);
            if (of4 == 0 && falls.items > 0) {
                int i = next(falls.items);
                if (course.hasInside(i)) {
                    course.takeOut(falls, i);
                } else {
                    course.putIn(falls, i);
                }
            } else if (of4 == 1 && falls.joins > 0) {
                course.makeWhole(falls, next(falls.joins));
            }
            course.passDay(falls);
        }

        private int next(int n) {
            x = x * 1103515245 + 12345;
            return n > 0 ? (x >>> 8) % n : 0;
        }
    }

    /** The bytes of the latest TAG. */
    private static final class Tag {
        private static final int MOST = 16;

        final int[] bytes = new int[MOST];
        int length;

        void write(long name, int how, int parts) {
            length = 0;
            for (int shift = 30; shift >= 0; shift -= 5) {
                int letter = (int) (name >> shift & 31);
                if (letter != 0) {
                    put('a' + letter - 1);
                }
            }
            put(how == READY ? " ready" : how == HANGING ? " hangs" : how == POOLED ? " in " : " out ");
            if (how >= POOLED) {
                if (parts >= 10) {
                    put('0' + parts / 10);
                }
                put('0' + parts % 10);
            }
        }

        private void put(String text) {
            for (int k = 0; k < text.length(); k++) {
                put(text.charAt(k));
            }
        }

        private void put(int c) {
            if (length < MOST) {
                bytes[length] = c;
                length++;
            }
        }
    }

    /** The LINES of the latest BOOK, and why the first WRONG one of them was so. */
    private static final class Book {
        private static final int BYTES_MOST = 400;
        private static final int LINES_MOST = 40;

        int why;
        private int lines;
        private final int[] deed = new int[LINES_MOST];
        private final int[] on = new int[LINES_MOST];

        void read(Tape text, Falls falls) {
            lines = 0;
            text.begin(BYTES_MOST);
            while (lines <= LINES_MOST && !text.atEnd()) {
                if (!readLine(text, falls)) {
                    return;
                }
                lines++;
            }
            text.finish();
        }

        private boolean readLine(Tape text, Falls falls) {
            int word = text.keyword();
            boolean byWord = word >= W_UNLOAD && word <= W_DAY;
            if (!byWord && !text.atName()) {
                return text.fail(CANT_COME);
            }
            if (!byWord && falls.personNamed(text.name()) == NONE) {
                return text.fail(BAD_NAME);
            }
            if (lines >= LINES_MOST) {
                return text.fail(TOO_MANY);
            }
            if (!byWord) {
                return readOfPerson(text, falls) && text.takeMark(';');
            }
            text.advance();
            deed[lines] = word;
            on[lines] = takeObject(text, falls, word);
            return on[lines] != NONE && text.takeMark(';');
        }

        private boolean readOfPerson(Tape text, Falls falls) {
            on[lines] = falls.takePerson(text);
            int word = text.keyword();
            if (word != W_GOES && word != W_FREES) {
                return text.fail(CANT_COME);
            }
            deed[lines] = word;
            text.advance();
            return true;
        }

        private static int takeObject(Tape text, Falls falls, int word) {
            if (word == W_BIND) {
                return text.takeNumber(0, JOINS_MOST - 1);
            }
            return word == W_DAY ? text.takeNumber(1, DAYS_AT_ONCE) : falls.takeItem(text);
        }

        /** Lives it as far as it is not WRONG: how many LINES. */
        int live(Falls falls, Course course) {
            for (int k = 0; k < lines; k++) {
                why = liveLine(falls, course, deed[k], on[k]);
                if (why != 0) {
                    return k;
                }
            }
            why = 0;
            return lines;
        }

        private static int liveLine(Falls falls, Course course, int word, int object) {
            if (word == W_DAY) {
                return liveDays(falls, course, object);
            }
            if (word == W_BIND && !falls.hasJoin(object)) {
                return 49;
            }
            int reason = course.attempt(falls, word, object);
            return reason == 0 ? 0 : (word - W_GOES) * 10 + reason;
        }

        private static int liveDays(Falls falls, Course course, int days) {
            if (days > DAYS_IN_ALL - course.day) {
                return 51;
            }
            for (int k = 0; k < days; k++) {
                course.passDay(falls);
            }
            return 0;
        }
    }

    /** A SENTENCE, its ONES behind one another so that each 'not', 'and', 'or' stands behind what it is of. */
    private static final class Sentence {
        private static final int BYTES_MOST = 200;
        private static final int ONES_MOST = 20;
        private static final int WITHIN_MOST = 8;
        private static final int STEPS_MOST = 2 * ONES_MOST;

        int ones;
        // 0 while there is no SENTENCE.
        int size;
        private final int[] word = new int[STEPS_MOST];
        private final int[] sign = new int[STEPS_MOST];
        private final int[] value = new int[STEPS_MOST];

        void copy(Sentence from) {
            ones = from.ones;
            size = from.size;
            System.arraycopy(from.word, 0, word, 0, STEPS_MOST);
            System.arraycopy(from.sign, 0, sign, 0, STEPS_MOST);
            System.arraycopy(from.value, 0, value, 0, STEPS_MOST);
        }

        void read(Tape text, Falls falls) {
            ones = 0;
            size = 0;
            text.begin(BYTES_MOST);
            if (readCondition(text, falls, 1)) {
                text.finish();
            }
        }

        // The bounds are never met: the 21st ONE is refused.
        private boolean readCondition(Tape text, Falls falls, int depth) {
            for (int alls = 0; alls <= ONES_MOST; alls++) {
                for (int k = 0; k <= ONES_MOST; k++) {
                    if (!readOne(text, falls, depth)) {
                        return false;
                    }
                    if (k > 0) {
                        step(W_AND, 0, 0);
                    }
                    if (text.keyword() != W_AND) {
                        break;
                    }
                    text.advance();
                }
                if (alls > 0) {
                    step(W_OR, 0, 0);
                }
                if (text.keyword() != W_OR) {
                    return true;
                }
                text.advance();
            }
            return text.fail(TOO_MANY);
        }

        private boolean readOne(Tape text, Falls falls, int depth) {
            int first = text.keyword();
            boolean bracket = text.atMark('(');
            if (!bracket && first < W_NOT) {
                return text.fail(CANT_COME);
            }
            if (ones >= ONES_MOST || depth > WITHIN_MOST) {
                return text.fail(TOO_MANY);
            }
            ones++;
            text.advance();
            if (bracket) {
                return readCondition(text, falls, depth + 1) && text.takeMark(')');
            }
            if (first == W_NOT) {
                return readOne(text, falls, depth + 1) && step(W_NOT, 0, 0);
            }
            if (first == W_HAS) {
                int item = falls.takeItem(text);
                return item != NONE && step(W_HAS, 0, item);
            }
            return first >= W_WEIGHT ? readComparison(text, first) : step(first, 0, 0);
        }

        private boolean readComparison(Tape text, int first) {
            int compared = text.takeSign();
            if (compared == NONE) {
                return false;
            }
            int number = text.takeNumber(0, 999);
            return number != NONE && step(first, compared, number);
        }

        private boolean step(int first, int compared, int number) {
            if (size < STEPS_MOST) {
                word[size] = first;
                sign[size] = compared;
                value[size] = number;
                size++;
            }
            return true;
        }

        // What was found waits as bits, the latest lowest.
        boolean holdsOf(Falls falls, Course course, Parts parts, int p) {
            int found = 0;
            for (int k = 0; k < size; k++) {
                if (word[k] == W_NOT) {
                    found ^= 1;
                } else if (word[k] == W_AND) {
                    found = found >> 1 & (found | ~1);
                } else if (word[k] == W_OR) {
                    found = found >> 1 | found & 1;
                } else {
                    found = found << 1 | (isSo(falls, course, parts, p, k) ? 1 : 0);
                }
            }
            return (found & 1) != 0;
        }

        private boolean isSo(Falls falls, Course course, Parts parts, int p, int k) {
            switch (word[k]) {
                case W_READY:
                    return course.how[p] == READY;
                case W_HANGING:
                    return course.how[p] == HANGING;
                case W_POOLED:
                    return course.how[p] == POOLED;
                case W_OUT:
                    return course.how[p] == OUT;
                case W_WHOLE:
                    return parts.asTheyAre(falls, course, p) == 1;
                case W_HAS:
                    return (course.inside & falls.itemsOf(p) & 1 << value[k]) != 0;
                case W_WEIGHT:
                    return compares(course.weight(falls, p), k);
                case W_PARTS:
                    return compares(parts.asTheyAre(falls, course, p), k);
                case W_STRAW:
                    return compares(falls.straw[p], k);
                case W_NUMBER:
                    return compares(p, k);
                default:
                    return false;
            }
        }

        private boolean compares(int his, int k) {
            return sign[k] == '<' ? his < value[k] : sign[k] == '>' ? his > value[k] : his == value[k];
        }
    }

    /** What image() kept in one place. */
    private static final class Image {
        boolean taken;
        final Falls falls = new Falls();
        final Course course = new Course();
        final Sentence sentence = new Sentence();
    }
}
