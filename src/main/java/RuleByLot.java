import java.util.Arrays;
import java.util.NoSuchElementException;

/** A house whose rule is read by lot: each day one chapter is drawn, and that alone holds. */
public final class RuleByLot {
    public static final int NONE = -1;

    // The sorts of names; count() numbers them in the same way.
    private static final int DEEDS = 0;
    private static final int MONKS = 1;
    private static final int CHAPTERS = 2;
    private static final int SORTS = 3;

    private static final int MOST_DEEDS = 8;
    private static final int MOST_MONKS = 4;
    private static final int MOST_CHAPTERS = 10;
    private static final int[] MOST_OF_SORT = {MOST_DEEDS, MOST_MONKS, MOST_CHAPTERS};

    private static final int LAST_DAY = 400;
    private static final int MOST_PENANCES = 99;
    private static final int PAST_DRAWS = 16;
    private static final int MOST_DAYS_AT_ONCE = 30;
    private static final int MOST_SEEDS = 30;
    private static final int MOST_FINISH_DAYS = 8;
    private static final int MOST_CHOSEN_DAYS = 4;
    private static final int MOST_TOLD = 8;
    private static final int IMAGES = 2;

    private static final int ANOTHER_LIVES = -1000;

    private static final int TAPE_ROOM = 940;
    private static final int FEED_BYTES = 20;
    // The longest notice: a name of 7, " holds", and 8 names of 7 with a blank each.
    private static final int NOTICE_ROOM = 80;

    private static final int FAULT_TOKEN = 1;
    private static final int FAULT_NUMBER = 2;
    private static final int FAULT_NAME = 3;
    private static final int FAULT_TOO_MANY = 4;

    // The words that are no names; the numbers below are their places in this list,
    // and a ONE of a sentence begins with a bracket or a word from NOT to NUMBER.
    private static final String RESERVED =
            "deed monk chapter must bars work atone once draw fold does night day or and not due barred free done owed left musts number ";
    private static final int RESERVED_WORDS = 24;
    private static final int DEED = 0;
    private static final int MONK = 1;
    private static final int CHAPTER = 2;
    private static final int MUST = 3;
    private static final int BARS = 4;
    private static final int WORK = 5;
    private static final int ATONE = 6;
    private static final int ONCE = 7;
    private static final int DRAW = 8;
    private static final int FOLD = 9;
    private static final int DOES = 10;
    private static final int NIGHT = 11;
    private static final int DAY = 12;
    private static final int OR = 13;
    private static final int AND = 14;
    private static final int NOT = 15;
    private static final int DUE = 16;
    private static final int BARRED = 17;
    private static final int FREE = 18;
    private static final int DONE = 19;
    private static final int OWED = 20;
    private static final int LEFT = 21;
    private static final int MUSTS = 22;
    private static final int NUMBER = 23;

    private final Tape tape;
    private final Reader reader;
    private final House house;
    private final House draftHouse;
    private final Life life;
    private final Life trial;
    private final Undone undone;
    private final Image[] images;
    private final Book book;
    private final Sentence sentence;
    private final Sentence draftSentence;
    private final Lots lots;
    private final Fraction likely;
    private final Fraction fairChance;
    private final Tape notice;
    private int faultKind;
    private int coveringBits;
    private int watchDeed;

    public RuleByLot() {
        tape = new Tape(TAPE_ROOM);
        reader = new Reader(tape);
        house = new House();
        draftHouse = new House();
        life = new Life(house);
        trial = new Life(house);
        undone = new Undone(house);
        images = new Image[IMAGES];
        for (int k = 0; k < IMAGES; k++) {
            images[k] = new Image(house);
        }
        book = new Book();
        sentence = new Sentence();
        draftSentence = new Sentence();
        lots = new Lots(house, life);
        likely = new Fraction();
        fairChance = new Fraction();
        notice = new Tape(NOTICE_ROOM);
        coveringBits = NONE;
        watchDeed = NONE;
    }

    public int feed(int a, int b, int c, int d, int e) {
        if (tape.length + FEED_BYTES > TAPE_ROOM) {
            return NONE;
        }
        tape.addNumber(a);
        tape.addNumber(b);
        tape.addNumber(c);
        tape.addNumber(d);
        tape.addNumber(e);
        return tape.length;
    }

    public boolean end(int n) {
        if (n < 0 || n > tape.length) {
            return false;
        }
        tape.length = n;
        return true;
    }

    public int house() {
        int lines = draftHouse.readFrom(reader);
        tape.length = 0;
        faultKind = reader.faultKind;
        if (lines == NONE) {
            return -1 - reader.faultPlace;
        }
        house.copyFrom(draftHouse);
        life.begin();
        undone.forget();
        sentence.clear();
        return lines;
    }

    public int fault() {
        return faultKind;
    }

    public int chapter(int c, int what) throws NoSuchElementException {
        if (!house.has(CHAPTERS, c)) {
            throw new NoSuchElementException();
        }
        switch (what) {
            case 0: return house.slips[c];
            case 1: return life.box[c];
            case 2: return house.must[c];
            case 3: return house.bars[c];
            case 4: return life.drawn[c];
            default: throw new NoSuchElementException();
        }
    }

    public int monk(int m, int what) throws NoSuchElementException {
        if (!house.has(MONKS, m)) {
            throw new NoSuchElementException();
        }
        switch (what) {
            case 0: return life.penances[m];
            case 1: return life.today[m];
            case 2: return life.deedsLeft(m);
            case 3: return life.workLeft(m);
            case 4: return life.deedsDone[m];
            default: throw new NoSuchElementException();
        }
    }

    public int left(int m, int d) {
        return house.has(MONKS, m) && house.has(DEEDS, d) ? life.left[m * MOST_DEEDS + d] : NONE;
    }

    public int now(int what) {
        switch (what) {
            case 0: return life.day;
            case 1: return life.holds;
            case 2: return life.mustToday();
            case 3: return life.barredToday();
            case 4: return life.slipsInBox();
            case 5: return life.allPenances();
            case 6: return life.allWorkLeft();
            default: return NONE;
        }
    }

    public int draw(int seed) {
        int why = life.whyNoDraw();
        if (why != 0) {
            return -1 - why;
        }
        undone.keep(life);
        life.hold(life.chapterBy(nextSeed(seed)));
        return life.holds;
    }

    public int fold(int c) {
        if (!house.has(CHAPTERS, c)) {
            return NONE;
        }
        int why = life.whyNoFold(c);
        if (why == 0) {
            undone.keep(life);
            life.hold(c);
        }
        return why;
    }

    public int does(int m, int d) {
        if (!house.has(MONKS, m) || !house.has(DEEDS, d)) {
            return NONE;
        }
        int why = life.whyNoDeed(m, d);
        if (why == 0) {
            undone.keep(life);
            life.doDeed(m, d);
        }
        return why;
    }

    public int night() {
        if (life.holds == NONE) {
            return NONE;
        }
        undone.keep(life);
        return life.passNight();
    }

    public int days(int n, int seed) {
        if (!isWithin(n, 1, MOST_DAYS_AT_ONCE) || house.hasNoChapters()) {
            return NONE;
        }
        if (!life.hasDay()) {
            return 0;
        }
        undone.keep(life);
        return life.passDays(n, seed);
    }

    public int undo() {
        return undone.giveBack(life) ? undone.size : NONE;
    }

    public int free() {
        return house.freeDeeds();
    }

    public int quarrels(int c) {
        return house.has(CHAPTERS, c) ? house.quarrelsWith(c) : NONE;
    }

    public int cover() {
        coveringBits = house.leastCover();
        return Integer.bitCount(coveringBits);
    }

    public int covering() {
        return coveringBits;
    }

    public long allowed(int d, int what) throws NoSuchElementException {
        if (!house.has(DEEDS, d) || house.hasNoChapters() || !isWithin(what, 0, 1)) {
            throw new NoSuchElementException();
        }
        likely.become(house.slipsAllowing(d, life.box), life.slipsInBox());
        return likely.part(what);
    }

    public long finish(int m, int d, int k, int what) throws NoSuchElementException {
        if (!house.has(MONKS, m) || !house.has(DEEDS, d) || !isWithin(k, 1, MOST_FINISH_DAYS)
                || house.hasNoChapters() || !isWithin(what, 0, 1)) {
            throw new NoSuchElementException();
        }
        lots.reckonFinish(m, d, k, likely);
        return likely.part(what);
    }

    public int most(int k) {
        if (!isWithin(k, 1, MOST_CHOSEN_DAYS) || house.hasNoChapters()) {
            return NONE;
        }
        return lots.chooseMost(k);
    }

    public int mostAt(int i) {
        return i >= 0 && i < lots.chosenDays ? lots.chosen[i] : NONE;
    }

    public int fair() {
        int answer = lots.tellsDraws(tape) ? lots.firstUnfair(tape, fairChance) : -2;
        tape.length = 0;
        return answer;
    }

    public long chance(int what) throws NoSuchElementException {
        if (fairChance.below == 0 || !isWithin(what, 0, 1)) {
            throw new NoSuchElementException();
        }
        return fairChance.part(what);
    }

    public int fits() {
        int bits = house.tellsDeeds(tape) ? house.chaptersThatFit(tape) : NONE;
        tape.length = 0;
        if (bits > 0) {
            watchDeed = house.deedToWatch(bits);
        }
        return bits;
    }

    public int watch() {
        return watchDeed;
    }

    public int waits(int c) {
        return house.has(CHAPTERS, c) && house.once ? life.longestWait(c) : NONE;
    }

    public int ago(int k) {
        return life.drawnAgo(k);
    }

    public int notice() {
        notice.length = 0;
        if (life.holds == NONE) {
            notice.addText("nobody knows");
            return notice.length;
        }
        notice.addName(house.nameOf(CHAPTERS, life.holds));
        notice.addText(" holds");
        int must = life.mustToday();
        for (int d = 0; d < MOST_DEEDS; d++) {
            if (hasBit(must, d)) {
                notice.addByte(' ');
                notice.addName(house.nameOf(DEEDS, d));
            }
        }
        return notice.length;
    }

    public int byteAt(int i) {
        return notice.at(i);
    }

    public int odds(int monk, int m, int n, int seed) {
        if (!house.has(MONKS, monk) || !isWithin(m, 1, MOST_DAYS_AT_ONCE)
                || !isWithin(n, 1, MOST_SEEDS) || house.hasNoChapters()) {
            return NONE;
        }
        int finished = 0;
        for (int i = 0; i < n; i++) {
            trial.copyFrom(life);
            if (trial.finishesWork(monk, m, seed + i)) {
                finished++;
            }
        }
        return finished;
    }

    public int book(int lives) {
        if (!isWithin(lives, 0, 1)) {
            return ANOTHER_LIVES;
        }
        boolean isRead = book.readFrom(reader, house);
        tape.length = 0;
        faultKind = reader.faultKind;
        if (!isRead) {
            return -2 - reader.faultPlace;
        }
        trial.copyFrom(life);
        int wrong = book.judge(trial);
        if (lives == 1) {
            undone.keep(life);
            life.copyFrom(trial);
        }
        return wrong;
    }

    public int told(int what) {
        return book.isJudged && isWithin(what, 0, Book.VERDICTS - 1) ? book.verdict[what] : NONE;
    }

    public int sentence() {
        boolean isRead = draftSentence.readFrom(reader, house);
        tape.length = 0;
        faultKind = reader.faultKind;
        if (!isRead) {
            return -1 - reader.faultPlace;
        }
        sentence.copyFrom(draftSentence);
        return sentence.ones;
    }

    public int said(int k) {
        if (sentence.ones == 0 || k < NONE) {
            return NONE;
        }
        int deeds = sentence.deedsSaid(life);
        return k == NONE ? Integer.bitCount(deeds) : placeOfBit(deeds, k);
    }

    public boolean image(int k) {
        Image kept = imageAt(k);
        if (kept == null) {
            return false;
        }
        kept.house.copyFrom(house);
        kept.life.copyFrom(life);
        kept.sentence.copyFrom(sentence);
        kept.isKept = true;
        return true;
    }

    public boolean restore(int k) {
        Image kept = imageAt(k);
        if (kept == null || !kept.isKept) {
            return false;
        }
        house.copyFrom(kept.house);
        life.copyFrom(kept.life);
        sentence.copyFrom(kept.sentence);
        undone.forget();
        return true;
    }

    public int count(int what) {
        switch (what) {
            case DEEDS:
            case MONKS:
            case CHAPTERS: return house.counts[what];
            case 3: return house.atone;
            case 4: return house.once ? 1 : 0;
            case 5: return tape.length;
            default: return NONE;
        }
    }

    private Image imageAt(int k) {
        return k >= 0 && k < IMAGES ? images[k] : null;
    }

    private static boolean isWithin(int number, int least, int most) {
        return number >= least && number <= most;
    }

    private static boolean hasBit(int bits, int i) {
        return (bits >>> i & 1) != 0;
    }

    private static int placeOfBit(int bits, int k) {
        int seen = 0;
        for (int d = 0; d < MOST_DEEDS; d++) {
            if (hasBit(bits, d)) {
                if (seen == k) {
                    return d;
                }
                seen++;
            }
        }
        return NONE;
    }

    private static int nextSeed(int x) {
        return x * 1103515245 + 12345;
    }

    /** Bytes one behind the other, as far as there is room. */
    private static final class Tape {
        final int[] bytes;
        int length;

        Tape(int room) {
            bytes = new int[room > 0 ? room : 0];
        }

        int at(int i) {
            return i >= 0 && i < length && i < bytes.length ? bytes[i] : NONE;
        }

        void addByte(int b) {
            if (length >= 0 && length < bytes.length) {
                bytes[length] = b;
                length++;
            }
        }

        void addNumber(int number) {
            for (int shift = 24; shift >= 0; shift -= 8) {
                addByte(number >>> shift & 255);
            }
        }

        void addText(String text) {
            for (int i = 0; i < text.length(); i++) {
                addByte(text.charAt(i));
            }
        }

        void addName(long name) {
            for (int shift = Reader.NAME_BITS - Reader.LETTER_BITS; shift >= 0; shift -= Reader.LETTER_BITS) {
                int letter = (int) (name >>> shift) & Reader.LETTER_MASK;
                if (letter != 0) {
                    addByte('a' - 1 + letter);
                }
            }
        }
    }

    /** Reads the tape token by token; the latest one is looked at before the next is read. */
    private static final class Reader {
        static final int MOST_LETTERS = 7;
        static final int MOST_DIGITS = 3;
        // A name is a number of 5 bits for each letter (a is 1), so that no text need be made.
        static final int LETTER_BITS = 5;
        static final int LETTER_MASK = 31;
        static final int NAME_BITS = MOST_LETTERS * LETTER_BITS;

        // Sorts of tokens; a sign is its own sort, by its byte.
        static final int BROKEN = 0;
        static final int AT_END = 1;
        static final int A_WORD = 2;
        static final int A_NUMBER = 3;

        final Tape tape;
        final long[] reserved;
        int mostBytes;
        int sort;
        int place;
        int behind;
        int word;
        long name;
        int number;
        int faultKind;
        int faultPlace;

        Reader(Tape tape) {
            this.tape = tape;
            reserved = new long[RESERVED_WORDS];
            int words = 0;
            for (int i = 0; i < RESERVED.length() && words < RESERVED_WORDS; i++) {
                char sign = RESERVED.charAt(i);
                if (sign == ' ') {
                    words++;
                } else {
                    reserved[words] = withLetter(reserved[words], sign);
                }
            }
        }

        void begin(int mostBytes) {
            this.mostBytes = mostBytes;
            behind = 0;
            faultKind = 0;
            faultPlace = 0;
            step();
        }

        void step() {
            word = NONE;
            place = behind;
            for (int i = 0; i < TAPE_ROOM && isBlank(tape.at(place)); i++) {
                place++;
            }
            if (tape.length > mostBytes && place >= mostBytes) {
                // Even blanks there are too many, so this may not count as the end.
                place = mostBytes;
                sort = BROKEN;
            } else if (place >= tape.length) {
                place = tape.length;
                sort = AT_END;
            } else if (isLetter(tape.at(place)) || isDigit(tape.at(place))) {
                readRun();
            } else {
                behind = place + 1;
                sort = isSign(tape.at(place)) ? tape.at(place) : BROKEN;
            }
        }

        private void readRun() {
            int letters = 0;
            int digits = 0;
            name = 0;
            number = 0;
            behind = place;
            for (int i = place; i < tape.length; i++) {
                int b = tape.at(i);
                if (isLetter(b)) {
                    letters++;
                    name = letters <= MOST_LETTERS ? withLetter(name, b) : 0;
                } else if (isDigit(b)) {
                    digits++;
                    number = digits <= MOST_DIGITS ? number * 10 + b - '0' : 0;
                } else {
                    break;
                }
                behind = i + 1;
            }
            if (digits == 0 && letters <= MOST_LETTERS) {
                sort = A_WORD;
                word = placeOfReserved();
            } else {
                sort = letters == 0 && digits <= MOST_DIGITS ? A_NUMBER : BROKEN;
            }
        }

        private int placeOfReserved() {
            for (int i = 0; i < RESERVED_WORDS; i++) {
                if (reserved[i] == name) {
                    return i;
                }
            }
            return NONE;
        }

        /** Always false, so that readers can answer with it. */
        boolean refuse(int kind) {
            faultKind = kind;
            faultPlace = place;
            return false;
        }

        boolean isName() {
            return sort == A_WORD && word == NONE;
        }

        boolean takeSign(char sign) {
            if (sort != sign) {
                return refuse(FAULT_TOKEN);
            }
            step();
            return true;
        }

        boolean takeWord(int wanted) {
            if (word != wanted) {
                return refuse(FAULT_TOKEN);
            }
            step();
            return true;
        }

        boolean isNumberWithin(int least, int most) {
            if (sort != A_NUMBER) {
                return refuse(FAULT_TOKEN);
            }
            return isWithin(number, least, most) || refuse(FAULT_NUMBER);
        }

        /** The number that the house gave the name, or NONE, and then there is a fault. */
        int findName(House house, int sortOfName) {
            if (!isName()) {
                refuse(FAULT_TOKEN);
                return NONE;
            }
            int found = house.placeOf(sortOfName, name);
            if (found == NONE) {
                refuse(FAULT_NAME);
            }
            return found;
        }

        private static long withLetter(long name, int letter) {
            return name << LETTER_BITS | letter - 'a' + 1;
        }

        private static boolean isBlank(int b) {
            return b == ' ' || b == '\n';
        }

        private static boolean isLetter(int b) {
            return b >= 'a' && b <= 'z';
        }

        private static boolean isDigit(int b) {
            return b >= '0' && b <= '9';
        }

        private static boolean isSign(int b) {
            return b == ';' || b == '<' || b == '=' || b == '>' || b == '(' || b == ')';
        }
    }

    /** What was told of the house, and what follows from that alone. */
    private static final class House {
        static final int MOST_BYTES = 900;
        static final int MOST_SLIPS = 9;
        static final int MOST_WORK = 20;

        final int[] counts;
        final long[] names;
        final int[] slips;
        final int[] must;
        final int[] bars;
        final int[] work;
        int atone;
        boolean once;

        House() {
            counts = new int[SORTS];
            names = new long[SORTS * MOST_CHAPTERS];
            slips = new int[MOST_CHAPTERS];
            must = new int[MOST_CHAPTERS];
            bars = new int[MOST_CHAPTERS];
            work = new int[MOST_MONKS * MOST_DEEDS];
            atone = NONE;
        }

        void clear() {
            Arrays.fill(counts, 0);
            Arrays.fill(names, 0L);
            Arrays.fill(slips, 0);
            Arrays.fill(must, 0);
            Arrays.fill(bars, 0);
            Arrays.fill(work, 0);
            atone = NONE;
            once = false;
        }

        void copyFrom(House other) {
            System.arraycopy(other.counts, 0, counts, 0, SORTS);
            System.arraycopy(other.names, 0, names, 0, SORTS * MOST_CHAPTERS);
            System.arraycopy(other.slips, 0, slips, 0, MOST_CHAPTERS);
            System.arraycopy(other.must, 0, must, 0, MOST_CHAPTERS);
            System.arraycopy(other.bars, 0, bars, 0, MOST_CHAPTERS);
            System.arraycopy(other.work, 0, work, 0, MOST_MONKS * MOST_DEEDS);
            atone = other.atone;
            once = other.once;
        }

        boolean has(int sort, int number) {
            return number >= 0 && number < counts[sort];
        }

        boolean hasNoChapters() {
            return counts[CHAPTERS] == 0;
        }

        long nameOf(int sort, int number) {
            return has(sort, number) ? names[sort * MOST_CHAPTERS + number] : 0;
        }

        int placeOf(int sort, long name) {
            for (int i = 0; i < counts[sort]; i++) {
                if (names[sort * MOST_CHAPTERS + i] == name) {
                    return i;
                }
            }
            return NONE;
        }

        private boolean isTold(long name) {
            return placeOf(DEEDS, name) != NONE || placeOf(MONKS, name) != NONE
                    || placeOf(CHAPTERS, name) != NONE;
        }

        /** How many lines were read, or NONE: then the reader has the fault. */
        int readFrom(Reader in) {
            clear();
            in.begin(MOST_BYTES);
            for (int lines = 0; lines <= MOST_BYTES; lines++) {
                if (in.sort == Reader.AT_END) {
                    return lines;
                }
                if (!readLine(in) || !in.takeSign(';')) {
                    return NONE;
                }
            }
            return NONE;
        }

        private boolean readLine(Reader in) {
            switch (in.word) {
                case DEED: return readNewName(in, DEEDS);
                case MONK: return readNewName(in, MONKS);
                case CHAPTER: return readNewName(in, CHAPTERS) && readSlips(in);
                case MUST: return readRule(in, must);
                case BARS: return readRule(in, bars);
                case WORK: return readWork(in);
                case ATONE: return readAtone(in);
                case ONCE: return readOnce(in);
                default: return in.refuse(FAULT_TOKEN);
            }
        }

        private boolean readNewName(Reader in, int sort) {
            int number = counts[sort];
            if (number >= MOST_OF_SORT[sort]) {
                return in.refuse(FAULT_TOO_MANY);
            }
            in.step();
            if (!in.isName()) {
                return in.refuse(FAULT_TOKEN);
            }
            if (isTold(in.name)) {
                return in.refuse(FAULT_NAME);
            }
            names[sort * MOST_CHAPTERS + number] = in.name;
            counts[sort] = number + 1;
            in.step();
            return true;
        }

        private boolean readSlips(Reader in) {
            int c = counts[CHAPTERS] - 1;
            if (c < 0 || !in.isNumberWithin(1, MOST_SLIPS)) {
                return false;
            }
            slips[c] = in.number;
            in.step();
            return true;
        }

        private boolean readRule(Reader in, int[] side) {
            in.step();
            int c = in.findName(this, CHAPTERS);
            if (c == NONE) {
                return false;
            }
            in.step();
            int d = in.findName(this, DEEDS);
            if (d == NONE) {
                return false;
            }
            if (hasBit(must[c] | bars[c], d)) {
                return in.refuse(FAULT_NAME);
            }
            side[c] |= 1 << d;
            in.step();
            return true;
        }

        private boolean readWork(Reader in) {
            in.step();
            int m = in.findName(this, MONKS);
            if (m == NONE) {
                return false;
            }
            in.step();
            int d = in.findName(this, DEEDS);
            if (d == NONE) {
                return false;
            }
            if (work[m * MOST_DEEDS + d] != 0) {
                return in.refuse(FAULT_NAME);
            }
            in.step();
            if (!in.isNumberWithin(1, MOST_WORK)) {
                return false;
            }
            work[m * MOST_DEEDS + d] = in.number;
            in.step();
            return true;
        }

        private boolean readAtone(Reader in) {
            if (atone != NONE) {
                return in.refuse(FAULT_NAME);
            }
            in.step();
            atone = in.findName(this, DEEDS);
            if (atone == NONE) {
                return false;
            }
            in.step();
            return true;
        }

        private boolean readOnce(Reader in) {
            if (once) {
                return in.refuse(FAULT_NAME);
            }
            once = true;
            in.step();
            return true;
        }

        int allSlips() {
            int all = 0;
            for (int c = 0; c < counts[CHAPTERS]; c++) {
                all += slips[c];
            }
            return all;
        }

        /** How many slips of a box are of chapters that do not bar the deed. */
        int slipsAllowing(int d, int[] box) {
            int allowing = 0;
            for (int c = 0; c < counts[CHAPTERS] && c < box.length; c++) {
                if (!hasBit(bars[c], d)) {
                    allowing += box[c];
                }
            }
            return allowing;
        }

        int freeDeeds() {
            int barred = 0;
            for (int c = 0; c < counts[CHAPTERS]; c++) {
                barred |= bars[c];
            }
            return (1 << counts[DEEDS]) - 1 & ~barred;
        }

        int quarrelsWith(int c) {
            int bits = 0;
            for (int other = 0; other < counts[CHAPTERS]; other++) {
                if ((must[c] & bars[other] | bars[c] & must[other]) != 0) {
                    bits |= 1 << other;
                }
            }
            return bits;
        }

        int chaptersWithMust(int d) {
            int musts = 0;
            for (int c = 0; c < counts[CHAPTERS]; c++) {
                if (hasBit(must[c], d)) {
                    musts++;
                }
            }
            return musts;
        }

        private int mustByAny(int chapters) {
            int deeds = 0;
            for (int c = 0; c < counts[CHAPTERS]; c++) {
                if (hasBit(chapters, c)) {
                    deeds |= must[c];
                }
            }
            return deeds;
        }

        /** As bits rise, a later set takes the place of an earlier one only if it is smaller. */
        int leastCover() {
            int all = (1 << counts[CHAPTERS]) - 1;
            int wanted = mustByAny(all);
            int best = all;
            for (int set = 0; set <= all; set++) {
                if (Integer.bitCount(set) < Integer.bitCount(best) && mustByAny(set) == wanted) {
                    best = set;
                }
            }
            return best;
        }

        boolean tellsDeeds(Tape tape) {
            if (!isWithin(tape.length, 2, 2 * MOST_TOLD) || tape.length % 2 != 0) {
                return false;
            }
            for (int i = 0; i < tape.length; i += 2) {
                if (!has(DEEDS, tape.at(i)) || tape.at(i + 1) > 1) {
                    return false;
                }
            }
            return true;
        }

        int chaptersThatFit(Tape tape) {
            int done = 0;
            int notDone = 0;
            for (int i = 0; i < tape.length; i += 2) {
                if (tape.at(i + 1) == 1) {
                    done |= 1 << tape.at(i);
                } else {
                    notDone |= 1 << tape.at(i);
                }
            }
            int bits = 0;
            for (int c = 0; c < counts[CHAPTERS]; c++) {
                if ((bars[c] & done) == 0 && (must[c] & notDone) == 0) {
                    bits |= 1 << c;
                }
            }
            return bits;
        }

        int deedToWatch(int chapters) {
            int best = NONE;
            int bestLeft = MOST_CHAPTERS + 1;
            for (int d = 0; d < counts[DEEDS]; d++) {
                int mayBeLeft = mostLeftBySeeing(d, chapters);
                if (mayBeLeft < bestLeft) {
                    best = d;
                    bestLeft = mayBeLeft;
                }
            }
            return best;
        }

        private int mostLeftBySeeing(int d, int chapters) {
            int musts = 0;
            int barring = 0;
            for (int c = 0; c < counts[CHAPTERS]; c++) {
                if (hasBit(chapters, c)) {
                    musts += must[c] >>> d & 1;
                    barring += bars[c] >>> d & 1;
                }
            }
            int neither = Integer.bitCount(chapters) - musts - barring;
            return Math.max(neither, Math.max(musts, barring));
        }
    }

    /** All that is so in a house on its days. */
    private static final class Life {
        final House house;
        final int[] box;
        final int[] drawn;
        final int[] penances;
        final int[] today;
        final int[] deedsDone;
        final int[] left;
        final int[] past;
        int pastDraws;
        int day;
        int holds;

        Life(House house) {
            this.house = house;
            box = new int[MOST_CHAPTERS];
            drawn = new int[MOST_CHAPTERS];
            penances = new int[MOST_MONKS];
            today = new int[MOST_MONKS];
            deedsDone = new int[MOST_MONKS];
            left = new int[MOST_MONKS * MOST_DEEDS];
            past = new int[PAST_DRAWS];
            holds = NONE;
        }

        void begin() {
            System.arraycopy(house.slips, 0, box, 0, MOST_CHAPTERS);
            System.arraycopy(house.work, 0, left, 0, MOST_MONKS * MOST_DEEDS);
            Arrays.fill(drawn, 0);
            Arrays.fill(penances, 0);
            Arrays.fill(today, 0);
            Arrays.fill(deedsDone, 0);
            Arrays.fill(past, 0);
            pastDraws = 0;
            day = 0;
            holds = NONE;
        }

        void copyFrom(Life other) {
            System.arraycopy(other.box, 0, box, 0, MOST_CHAPTERS);
            System.arraycopy(other.drawn, 0, drawn, 0, MOST_CHAPTERS);
            System.arraycopy(other.penances, 0, penances, 0, MOST_MONKS);
            System.arraycopy(other.today, 0, today, 0, MOST_MONKS);
            System.arraycopy(other.deedsDone, 0, deedsDone, 0, MOST_MONKS);
            System.arraycopy(other.left, 0, left, 0, MOST_MONKS * MOST_DEEDS);
            System.arraycopy(other.past, 0, past, 0, PAST_DRAWS);
            pastDraws = other.pastDraws;
            day = other.day;
            holds = other.holds;
        }

        int slipsInBox() {
            int slips = 0;
            for (int c = 0; c < house.counts[CHAPTERS]; c++) {
                slips += box[c];
            }
            return slips;
        }

        int mustToday() {
            return holds >= 0 && holds < MOST_CHAPTERS ? house.must[holds] : 0;
        }

        int barredToday() {
            return holds >= 0 && holds < MOST_CHAPTERS ? house.bars[holds] : 0;
        }

        int deedsLeft(int m) {
            int deeds = 0;
            for (int d = 0; d < house.counts[DEEDS]; d++) {
                if (left[m * MOST_DEEDS + d] > 0) {
                    deeds |= 1 << d;
                }
            }
            return deeds;
        }

        int workLeft(int m) {
            int work = 0;
            for (int d = 0; d < house.counts[DEEDS]; d++) {
                work += left[m * MOST_DEEDS + d];
            }
            return work;
        }

        int workLeftOf(int d) {
            int work = 0;
            for (int m = 0; m < house.counts[MONKS]; m++) {
                work += left[m * MOST_DEEDS + d];
            }
            return work;
        }

        int allWorkLeft() {
            int work = 0;
            for (int m = 0; m < house.counts[MONKS]; m++) {
                work += workLeft(m);
            }
            return work;
        }

        int allPenances() {
            int all = 0;
            for (int m = 0; m < house.counts[MONKS]; m++) {
                all += penances[m];
            }
            return all;
        }

        int drawnAgo(int k) {
            if (!isWithin(k, 0, PAST_DRAWS - 1) || k >= pastDraws) {
                return NONE;
            }
            return past[(pastDraws - 1 - k) % PAST_DRAWS];
        }

        int whyNoDraw() {
            if (holds != NONE) {
                return 1;
            }
            if (house.hasNoChapters()) {
                return 2;
            }
            return day >= LAST_DAY ? 3 : 0;
        }

        int whyNoFold(int c) {
            if (holds != NONE) {
                return 1;
            }
            if (box[c] == 0) {
                return 2;
            }
            return day >= LAST_DAY ? 3 : 0;
        }

        int whyNoDeed(int m, int d) {
            if (holds == NONE) {
                return 1;
            }
            if (hasBit(barredToday(), d)) {
                return 2;
            }
            return hasBit(today[m], d) ? 3 : 0;
        }

        /** Whose slip is drawn from the box by x; NONE, if it has none. */
        int chapterBy(int x) {
            int slips = slipsInBox();
            if (slips <= 0) {
                return NONE;
            }
            int slip = (x >>> 8) % slips;
            for (int c = 0; c < house.counts[CHAPTERS]; c++) {
                if (slip < box[c]) {
                    return c;
                }
                slip -= box[c];
            }
            return NONE;
        }

        void hold(int c) {
            if (c < 0 || c >= MOST_CHAPTERS) {
                return;
            }
            holds = c;
            drawn[c]++;
            past[pastDraws % PAST_DRAWS] = c;
            pastDraws++;
            if (house.once) {
                box[c]--;
                if (slipsInBox() == 0) {
                    System.arraycopy(house.slips, 0, box, 0, MOST_CHAPTERS);
                }
            }
        }

        void doDeed(int m, int d) {
            today[m] |= 1 << d;
            deedsDone[m]++;
            if (left[m * MOST_DEEDS + d] > 0) {
                left[m * MOST_DEEDS + d]--;
            }
            if (d == house.atone && penances[m] > 0) {
                penances[m]--;
            }
        }

        /** How many penances more are owed, those above the most not among them. */
        int passNight() {
            int must = mustToday();
            int more = 0;
            for (int m = 0; m < house.counts[MONKS]; m++) {
                int owed = penances[m] + Integer.bitCount(must & ~today[m]);
                int kept = Math.min(owed, MOST_PENANCES);
                more += kept - penances[m];
                penances[m] = kept;
                today[m] = 0;
            }
            holds = NONE;
            day++;
            return more;
        }

        boolean hasDay() {
            return holds != NONE || whyNoDraw() == 0;
        }

        /** Lives one day that there is; what the seed is for the next one. */
        private int passDay(int seed) {
            int x = seed;
            if (holds == NONE) {
                x = nextSeed(seed);
                hold(chapterBy(x));
            }
            for (int m = 0; m < house.counts[MONKS]; m++) {
                doWanted(m);
            }
            passNight();
            return x;
        }

        private void doWanted(int m) {
            int wanted = mustToday() | deedsLeft(m);
            if (house.atone != NONE && penances[m] > 0) {
                wanted |= 1 << house.atone;
            }
            int can = wanted & ~barredToday() & ~today[m];
            for (int d = 0; d < house.counts[DEEDS]; d++) {
                if (hasBit(can, d)) {
                    doDeed(m, d);
                }
            }
        }

        int passDays(int n, int seed) {
            int x = seed;
            for (int i = 0; i < n; i++) {
                if (!hasDay()) {
                    return i;
                }
                x = passDay(x);
            }
            return n;
        }

        /** Work never grows, so days behind its end need not be lived. */
        boolean finishesWork(int m, int n, int seed) {
            int x = seed;
            for (int i = 0; i < n && hasDay() && workLeft(m) > 0; i++) {
                x = passDay(x);
            }
            return workLeft(m) == 0;
        }

        int longestWait(int c) {
            int slips = slipsInBox();
            return box[c] > 0 ? slips - box[c] + 1 : slips + house.allSlips() - house.slips[c] + 1;
        }
    }

    /** The lives ahead of the latest acts, in a ring: the oldest gives way. */
    private static final class Undone {
        static final int MOST_KEPT = 8;

        final Life[] lives;
        int next;
        int size;

        Undone(House house) {
            lives = new Life[MOST_KEPT];
            for (int i = 0; i < MOST_KEPT; i++) {
                lives[i] = new Life(house);
            }
        }

        void forget() {
            size = 0;
        }

        void keep(Life life) {
            Life kept = lives[next];
            if (kept == null) {
                return;
            }
            kept.copyFrom(life);
            next = (next + 1) % MOST_KEPT;
            size = Math.min(size + 1, MOST_KEPT);
        }

        boolean giveBack(Life life) {
            if (size == 0) {
                return false;
            }
            next = (next + MOST_KEPT - 1) % MOST_KEPT;
            size--;
            Life kept = lives[next];
            if (kept == null) {
                return false;
            }
            life.copyFrom(kept);
            return true;
        }
    }

    /** Acts told line by line, and the verdict on the latest book that could be read. */
    private static final class Book {
        static final int MOST_BYTES = 400;
        static final int MOST_LINES = 40;
        static final int MOST_SEED = 999;
        static final int VERDICTS = 4;

        static final int WHY_FOLD = 10;
        static final int WHY_DEED = 20;
        static final int WHY_NIGHT = 31;
        static final int WHY_FEW_DAYS = 41;
        static final int WHY_NO_CHAPTERS = 42;

        final int[] acts;
        final int[] monks;
        final int[] objects;
        final int[] verdict;
        int lines;
        boolean isJudged;

        Book() {
            acts = new int[MOST_LINES];
            monks = new int[MOST_LINES];
            objects = new int[MOST_LINES];
            verdict = new int[VERDICTS];
        }

        /** False: the reader has the fault. */
        boolean readFrom(Reader in, House house) {
            lines = 0;
            in.begin(MOST_BYTES);
            for (int i = 0; i <= MOST_LINES; i++) {
                if (in.sort == Reader.AT_END) {
                    return true;
                }
                if (!readLine(in, house) || !in.takeSign(';')) {
                    return false;
                }
                lines++;
            }
            return false;
        }

        private boolean readLine(Reader in, House house) {
            int act = in.word;
            int monk = NONE;
            if (in.isName()) {
                act = DOES;
                monk = in.findName(house, MONKS);
                if (monk == NONE) {
                    return false;
                }
            } else if (act != DRAW && act != FOLD && act != NIGHT && act != DAY) {
                return in.refuse(FAULT_TOKEN);
            }
            if (lines >= MOST_LINES) {
                return in.refuse(FAULT_TOO_MANY);
            }
            acts[lines] = act;
            monks[lines] = monk;
            in.step();
            switch (act) {
                case DRAW: return readNumber(in, 0, MOST_SEED);
                case DAY: return readNumber(in, 1, MOST_DAYS_AT_ONCE);
                case FOLD: return readName(in, house, CHAPTERS);
                case DOES: return in.takeWord(DOES) && readName(in, house, DEEDS);
                default: return true;
            }
        }

        private boolean readNumber(Reader in, int least, int most) {
            if (!in.isNumberWithin(least, most)) {
                return false;
            }
            objects[lines] = in.number;
            in.step();
            return true;
        }

        private boolean readName(Reader in, House house, int sort) {
            objects[lines] = in.findName(house, sort);
            if (objects[lines] == NONE) {
                return false;
            }
            in.step();
            return true;
        }

        /** Lives the book as far as it is not wrong: the line that is, or NONE. */
        int judge(Life life) {
            int lived = 0;
            int why = 0;
            for (int line = 0; line < lines && why == 0; line++) {
                why = whyWrong(line, life);
                if (why == 0) {
                    liveLine(line, life);
                    lived++;
                }
            }
            verdict[0] = why;
            verdict[1] = lived;
            verdict[2] = life.day;
            verdict[3] = life.allPenances();
            isJudged = true;
            return why == 0 ? NONE : lived;
        }

        private int whyWrong(int line, Life life) {
            switch (acts[line]) {
                case DRAW: return life.whyNoDraw();
                case FOLD: return withKind(WHY_FOLD, life.whyNoFold(objects[line]));
                case DOES: return withKind(WHY_DEED, life.whyNoDeed(monks[line], objects[line]));
                case NIGHT: return life.holds == NONE ? WHY_NIGHT : 0;
                default: return whyNoDays(life, objects[line]);
            }
        }

        private static int withKind(int kind, int why) {
            return why == 0 ? 0 : kind + why;
        }

        private static int whyNoDays(Life life, int n) {
            if (life.house.hasNoChapters()) {
                return WHY_NO_CHAPTERS;
            }
            return LAST_DAY - life.day < n ? WHY_FEW_DAYS : 0;
        }

        private void liveLine(int line, Life life) {
            switch (acts[line]) {
                case DRAW: life.hold(life.chapterBy(nextSeed(objects[line]))); break;
                case FOLD: life.hold(objects[line]); break;
                case DOES: life.doDeed(monks[line], objects[line]); break;
                case NIGHT: life.passNight(); break;
                default: life.passDays(objects[line], objects[line]); break;
            }
        }
    }

    /**
     * What may be said of deeds. The parts stand behind one another so that each joins what
     * stands ahead of it; all deeds are judged at once, as bits.
     */
    private static final class Sentence {
        static final int MOST_BYTES = 200;
        static final int MOST_ONES = 20;
        static final int MOST_WITHIN = 8;
        static final int MOST_NUMBER = 999;
        // Between ones there is at most one joint less.
        static final int MOST_PARTS = 2 * MOST_ONES;

        final int[] parts;
        final int[] signs;
        final int[] numbers;
        final int[] open;
        int length;
        int ones;
        int height;

        Sentence() {
            parts = new int[MOST_PARTS];
            signs = new int[MOST_PARTS];
            numbers = new int[MOST_PARTS];
            open = new int[MOST_PARTS];
        }

        void clear() {
            length = 0;
            ones = 0;
        }

        void copyFrom(Sentence other) {
            System.arraycopy(other.parts, 0, parts, 0, MOST_PARTS);
            System.arraycopy(other.signs, 0, signs, 0, MOST_PARTS);
            System.arraycopy(other.numbers, 0, numbers, 0, MOST_PARTS);
            length = other.length;
            ones = other.ones;
        }

        /** False: the reader has the fault. */
        boolean readFrom(Reader in, House house) {
            clear();
            in.begin(MOST_BYTES);
            if (!readCondition(in, house, 0)) {
                return false;
            }
            return in.sort == Reader.AT_END || in.refuse(FAULT_TOKEN);
        }

        private boolean readCondition(Reader in, House house, int within) {
            if (!readAll(in, house, within)) {
                return false;
            }
            for (int i = 0; i < MOST_ONES && in.word == OR; i++) {
                in.step();
                if (!readAll(in, house, within)) {
                    return false;
                }
                addPart(OR, 0, 0);
            }
            return true;
        }

        private boolean readAll(Reader in, House house, int within) {
            if (!readOne(in, house, within)) {
                return false;
            }
            for (int i = 0; i < MOST_ONES && in.word == AND; i++) {
                in.step();
                if (!readOne(in, house, within)) {
                    return false;
                }
                addPart(AND, 0, 0);
            }
            return true;
        }

        private static boolean beginsOne(Reader in) {
            return in.sort == '(' || isWithin(in.word, NOT, NUMBER);
        }

        private boolean readOne(Reader in, House house, int within) {
            if (!beginsOne(in)) {
                return in.refuse(FAULT_TOKEN);
            }
            if (ones >= MOST_ONES || within >= MOST_WITHIN) {
                return in.refuse(FAULT_TOO_MANY);
            }
            ones++;
            int part = in.word;
            in.step();
            switch (part) {
                case NONE: // the bracket, which is no word
                    return readCondition(in, house, within + 1) && in.takeSign(')');
                case NOT:
                    if (!readOne(in, house, within + 1)) {
                        return false;
                    }
                    addPart(NOT, 0, 0);
                    return true;
                case DONE:
                case OWED:
                    return readMonk(in, house, part);
                case LEFT:
                case MUSTS:
                case NUMBER:
                    return readComparison(in, part);
                default:
                    addPart(part, 0, 0);
                    return true;
            }
        }

        private boolean readMonk(Reader in, House house, int part) {
            int m = in.findName(house, MONKS);
            if (m == NONE) {
                return false;
            }
            addPart(part, 0, m);
            in.step();
            return true;
        }

        private boolean readComparison(Reader in, int part) {
            int sign = in.sort;
            if (sign != '<' && sign != '=' && sign != '>') {
                return in.refuse(FAULT_TOKEN);
            }
            in.step();
            if (!in.isNumberWithin(0, MOST_NUMBER)) {
                return false;
            }
            addPart(part, sign, in.number);
            in.step();
            return true;
        }

        private void addPart(int part, int sign, int number) {
            if (length < MOST_PARTS) {
                parts[length] = part;
                signs[length] = sign;
                numbers[length] = number;
                length++;
            }
        }

        /** The deeds of which it may be said, as bits. */
        int deedsSaid(Life life) {
            int all = (1 << life.house.counts[DEEDS]) - 1;
            height = 0;
            for (int i = 0; i < length; i++) {
                switch (parts[i]) {
                    case OR: push(pop() | pop()); break;
                    case AND: push(pop() & pop()); break;
                    case NOT: push(all & ~pop()); break;
                    default: push(deedsOfPlain(i, life)); break;
                }
            }
            return pop();
        }

        private void push(int deeds) {
            if (height < MOST_PARTS) {
                open[height] = deeds;
                height++;
            }
        }

        private int pop() {
            if (height == 0) {
                return 0;
            }
            height--;
            return open[height];
        }

        private int deedsOfPlain(int i, Life life) {
            switch (parts[i]) {
                case DUE: return life.mustToday();
                case BARRED: return life.barredToday();
                case FREE: return life.house.freeDeeds();
                case DONE: return life.today[numbers[i]];
                case OWED: return life.deedsLeft(numbers[i]);
                default: return deedsCompared(i, life);
            }
        }

        private int deedsCompared(int i, Life life) {
            int deeds = 0;
            for (int d = 0; d < life.house.counts[DEEDS]; d++) {
                if (isAsSaid(amountOf(parts[i], d, life), signs[i], numbers[i])) {
                    deeds |= 1 << d;
                }
            }
            return deeds;
        }

        private static int amountOf(int part, int d, Life life) {
            switch (part) {
                case LEFT: return life.workLeftOf(d);
                case MUSTS: return life.house.chaptersWithMust(d);
                default: return d;
            }
        }

        private static boolean isAsSaid(int amount, int sign, int number) {
            if (sign == '<') {
                return amount < number;
            }
            return sign == '=' ? amount == number : amount > number;
        }
    }

    /** A house, its life and its sentence as they once were. */
    private static final class Image {
        final House house;
        final Life life;
        final Sentence sentence;
        boolean isKept;

        Image(House lived) {
            house = new House();
            life = new Life(lived);
            sentence = new Sentence();
        }
    }

    /** A fraction in least terms; there is none yet while nothing is below. */
    private static final class Fraction {
        // Each two steps at least halve what is left, so that no two longs need more.
        static final int MOST_DIVISIONS = 128;

        long above;
        long below;

        void become(long newAbove, long newBelow) {
            long a = newAbove;
            long b = newBelow;
            for (int i = 0; i < MOST_DIVISIONS && b != 0; i++) {
                long rest = a % b;
                a = b;
                b = rest;
            }
            above = a == 0 ? newAbove : newAbove / a;
            below = a == 0 ? newBelow : newBelow / a;
        }

        long part(int what) {
            return what == 0 ? above : below;
        }
    }

    /** What is reckoned ahead from the box and the work as they are. */
    private static final class Lots {
        // 4 of 10 chapters in rising order can be chosen in 715 ways.
        static final int MOST_CHOICES = 715;

        final House house;
        final Life life;
        final long[] ways;
        final int[] box;
        final int[] chosen;
        final int[] choice;
        int chosenDays;

        Lots(House house, Life life) {
            this.house = house;
            this.life = life;
            ways = new long[MOST_FINISH_DAYS + 1];
            box = new int[MOST_CHAPTERS];
            chosen = new int[MOST_CHOSEN_DAYS];
            choice = new int[MOST_CHOSEN_DAYS];
        }

        /**
         * Counts the ways to draw slips by how many of them allow the deed. With 'once' a box
         * comes to its end with all its slips drawn, so that number tells what is left in it.
         */
        void reckonFinish(int m, int d, int k, Fraction answer) {
            Arrays.fill(ways, 0L);
            ways[0] = 1;
            long all = 1;
            int slips = life.slipsInBox();
            int allowing = house.slipsAllowing(d, life.box);
            for (int i = 0; i < k; i++) {
                spreadWays(i, allowing, slips);
                all *= slips;
                if (house.once) {
                    slips--;
                    if (slips == 0) {
                        slips = house.allSlips();
                        allowing += house.slipsAllowing(d, house.slips);
                    }
                }
            }
            long enough = 0;
            for (int done = life.left[m * MOST_DEEDS + d]; done <= k; done++) {
                enough += ways[done];
            }
            answer.become(enough, all);
        }

        private void spreadWays(int drawn, int allowing, int slips) {
            for (int done = drawn; done >= 0; done--) {
                int open = house.once ? allowing - done : allowing;
                ways[done + 1] += ways[done] * open;
                ways[done] *= slips - open;
            }
        }

        /** The first choice stays unless a later one gets more done. */
        int chooseMost(int k) {
            int best = NONE;
            Arrays.fill(choice, 0);
            for (int i = 0; i < MOST_CHOICES; i++) {
                int work = workByChoice(k);
                if (work > best) {
                    best = work;
                    System.arraycopy(choice, 0, chosen, 0, MOST_CHOSEN_DAYS);
                }
                if (!stepChoice(k)) {
                    break;
                }
            }
            chosenDays = k;
            return best;
        }

        private int workByChoice(int k) {
            int work = 0;
            for (int d = 0; d < house.counts[DEEDS]; d++) {
                int openDays = 0;
                for (int i = 0; i < k; i++) {
                    openDays += 1 - (house.bars[choice[i]] >>> d & 1);
                }
                for (int m = 0; m < house.counts[MONKS]; m++) {
                    work += Math.min(life.left[m * MOST_DEEDS + d], openDays);
                }
            }
            return work;
        }

        private boolean stepChoice(int k) {
            for (int i = k - 1; i >= 0; i--) {
                if (choice[i] < house.counts[CHAPTERS] - 1) {
                    int next = choice[i] + 1;
                    for (int j = i; j < k; j++) {
                        choice[j] = next;
                    }
                    return true;
                }
            }
            return false;
        }

        boolean tellsDraws(Tape tape) {
            if (!isWithin(tape.length, 1, MOST_TOLD)) {
                return false;
            }
            for (int i = 0; i < tape.length; i++) {
                if (!house.has(CHAPTERS, tape.at(i))) {
                    return false;
                }
            }
            return true;
        }

        /** NONE: all draws can be, and the chance is theirs. */
        int firstUnfair(Tape tape, Fraction chance) {
            System.arraycopy(life.box, 0, box, 0, MOST_CHAPTERS);
            int slips = life.slipsInBox();
            long above = 1;
            long below = 1;
            for (int i = 0; i < tape.length; i++) {
                int c = tape.at(i);
                if (box[c] == 0) {
                    return i;
                }
                above *= box[c];
                below *= slips;
                if (house.once) {
                    box[c]--;
                    slips--;
                    if (slips == 0) {
                        System.arraycopy(house.slips, 0, box, 0, MOST_CHAPTERS);
                        slips = house.allSlips();
                    }
                }
            }
            chance.become(above, below);
            return NONE;
        }
    }
}
