import java.util.Arrays;
import java.util.NoSuchElementException;

/** A room of linked verse; DOC.md says what each call answers. */
public final class LinkedVerse {
    public static final int NONE = -1;

    private static final int MAX_KINDS = 8;
    private static final int MAX_GROUPS = 8;
    private static final int MAX_RULES = 12;
    private static final int MAX_LENGTH = 48;
    private static final int FIRST_LENGTH = 36;
    private static final int MAX_MINUTES = 99;
    private static final int MAX_BYTES = 600;
    private static final int MAX_POETS = 12;
    private static final int MAX_RANK = 99;
    private static final int MAX_YEAR = 9999;
    private static final int MAX_ENTRIES = 100;
    private static final int BOOK_WORDS = 30;
    private static final int VERSE_WORDS = 3;
    private static final int MAX_VALUE = 9;
    private static final int MAX_TAKEN = 999;
    private static final int MAX_TYPES = 16;
    private static final int MAX_STATES = 400;
    private static final int MAX_STORE = 20;
    private static final int MAX_TRY = 3;
    private static final int ALL_SETS = 1 << MAX_KINDS;

    // The words of the text in this order, so that a rule's word has its sort as number.
    private static final String KEYWORDS =
        "at not run gap most least again link shift kind group length minutes ";
    private static final int KEYWORD_COUNT = 13;
    private static final int AT = 0;
    private static final int NOT = 1;
    private static final int RUN = 2;
    private static final int GAP = 3;
    private static final int MOST = 4;
    private static final int LEAST = 5;
    private static final int AGAIN = 6;
    private static final int LINK = 7;
    private static final int SHIFT = 8;
    private static final int KIND = 9;
    private static final int GROUP = 10;
    private static final int LENGTH = 11;
    private static final int MINUTES = 12;

    private static final int CROWDED = -4;
    private static final int IS_WORN = -9;
    private static final int TOO_LONG = -3;
    private static final int NO_PLACE = -2;
    private static final int NO_LIKE = -100;
    private static final int NO_TRY = -100;
    private static final int OTHER_TRY = -102;
    private static final int WORN_TRY = -109;

    private final Reader reader;
    private final Rules rules;
    private final Book book;
    private final Values values;
    private final Poets poets;
    private final Sheet sheet;
    private final Ending ending;
    private final Store store;

    public LinkedVerse() {
        rules = new Rules();
        reader = new Reader();
        book = new Book();
        values = new Values();
        poets = new Poets();
        sheet = new Sheet(rules, values);
        ending = new Ending(rules, values, sheet);
        store = new Store(rules, values, sheet, book);
    }

    public int feed(long a, long b, long c) {
        reader.putBytes(a);
        reader.putBytes(b);
        reader.putBytes(c);
        return reader.size;
    }

    public int read() {
        int fault = reader.readText();
        if (fault == 0) {
            rules.copyOf(reader.told);
            beginAnew();
        }
        return fault;
    }

    private void beginAnew() {
        values.clear();
        book.clear();
        poets.leaveSheet();
        sheet.clear();
        ending.clear();
        store.clear();
    }

    public int poet(int rank) {
        return rank < 0 || rank > MAX_RANK ? NONE : poets.add(rank);
    }

    public int turn() {
        return sheet.size >= rules.length ? NONE : poets.whoseTurn();
    }

    public int pass() {
        int poet = turn();
        if (poet == NONE) {
            return NONE;
        }
        poets.letPass(poet);
        return turn();
    }

    public boolean year(int y) {
        if (!isYear(y)) {
            return false;
        }
        book.year = y;
        return true;
    }

    public int entry(int word, int year, int set) {
        if (!isWord(word) || !isYear(year) || !rules.isSet(set)) {
            return NONE;
        }
        return book.put(word, year, set);
    }

    public int word(int word) {
        return isWord(word) ? book.setOf(word) : NONE;
    }

    public int like(int a, int b, int value) {
        if (!rules.isKind(a) || !rules.isKind(b) || value < -MAX_VALUE || value > MAX_VALUE) {
            return NO_LIKE;
        }
        return values.change(a, b, value);
    }

    public int liking(int a, int b) throws NoSuchElementException {
        if (!rules.isSet(a) || !rules.isSet(b)) {
            throw new NoSuchElementException("no such kinds");
        }
        return values.sumOf(a, b);
    }

    public int verse(int minutes, int a, int b, int c) {
        int poet = turn();
        if (poet == NONE || !areWords(a, b, c) || minutes < 0 || minutes > MAX_TAKEN) {
            return NONE;
        }
        if (sheet.wornCount > 0) {
            return IS_WORN;
        }
        if (minutes > rules.minutes) {
            poets.letPass(poet);
            return TOO_LONG;
        }
        int rule = brokenByNext(a, b, c);
        if (rule != NONE) {
            return -10 - rule;
        }
        sheet.keepNext(poet, minutes);
        poets.letTell(poet);
        return sheet.size;
    }

    public int breaks(int a, int b, int c) {
        if (sheet.size >= rules.length || !areWords(a, b, c)) {
            return NO_PLACE;
        }
        return sheet.wornCount > 0 ? IS_WORN : brokenByNext(a, b, c);
    }

    private int brokenByNext(int a, int b, int c) {
        int place = sheet.size + 1;
        sheet.lay(place, book.setOfAll(a, b, c), a, b, c);
        return sheet.firstBroken(place);
    }

    public int back() {
        int place = sheet.size;
        if (place < 1) {
            return NONE;
        }
        poets.takeBack(sheet.poets[place]);
        sheet.dropLast();
        return place;
    }

    public boolean worn(int place, boolean is) {
        return sheet.isTold(place) && sheet.wear(place, is);
    }

    public int type(int set) {
        return rules.isSet(set) ? ending.addType(set) : NONE;
    }

    public int ends() {
        return ending.solve();
    }

    public int full(int place) {
        return place < 1 || place > MAX_LENGTH ? NONE : ending.fullTypes[place];
    }

    public int can(int place) {
        return place < 1 || place > MAX_LENGTH ? NONE : ending.canTypes[place];
    }

    public int store(int a, int b, int c) {
        return areWords(a, b, c) ? store.add(a, b, c) : NONE;
    }

    public int best(int m) {
        store.forgetBest();
        if (m < 1 || m > MAX_TRY) {
            return OTHER_TRY;
        }
        if (sheet.wornCount > 0) {
            return WORN_TRY;
        }
        store.search(m);
        return store.bestSize == 0 ? NO_TRY : store.bestWorth;
    }

    public int bestOf(int i) {
        return i < 0 || i >= store.bestSize ? NONE : store.bestPicks[i];
    }

    public int verseOf(int place, int what) {
        return sheet.isTold(place) ? sheet.partOf(place, what) : NONE;
    }

    public int poetOf(int poet, int what) {
        if (poet < 0 || poet >= poets.size) {
            return NONE;
        }
        switch (what) {
            case 0: return poets.ranks[poet];
            case 1: return poets.verses[poet];
            case 2: return poets.passed[poet] ? 1 : 0;
            default: return NONE;
        }
    }

    public int ruleOf(int rule, int what) {
        if (rule < 0 || rule >= rules.size) {
            return NONE;
        }
        switch (what) {
            case 0: return rules.sorts[rule];
            case 1: return rules.sets[rule];
            case 2: return rules.firsts[rule];
            case 3: return rules.seconds[rule];
            case 4: return sheet.howManyHave(rules.sets[rule]);
            default: return NONE;
        }
    }

    public int count(int what) {
        switch (what) {
            case 0: return rules.kinds;
            case 1: return rules.groups;
            case 2: return rules.size;
            case 3: return rules.length;
            case 4: return rules.minutes;
            case 5: return sheet.size;
            case 6: return poets.size;
            case 7: return ending.typeCount;
            case 8: return book.size;
            case 9: return store.size;
            case 10: return reader.size;
            case 11: return sheet.wornCount;
            case 12: return ending.stateCount;
            default: return NONE;
        }
    }

    private static boolean isYear(int year) {
        return year >= 0 && year <= MAX_YEAR;
    }

    private static boolean isWord(int word) {
        return word >= 0 && word < BOOK_WORDS;
    }

    private static boolean areWords(int a, int b, int c) {
        return (a == NONE || isWord(a)) && (b == NONE || isWord(b)) && (c == NONE || isWord(c));
    }

    /** What a text tells: kinds, groups, length, minutes and the rules by number. */
    private static final class Rules {
        int kinds;
        int groups;
        int size;
        int length = FIRST_LENGTH;
        int minutes = MAX_MINUTES;
        int nameCount;
        final long[] names = new long[MAX_KINDS + MAX_GROUPS];
        final int[] nameSets = new int[MAX_KINDS + MAX_GROUPS];
        final int[] sorts = new int[MAX_RULES];
        final int[] sets = new int[MAX_RULES];
        final int[] firsts = new int[MAX_RULES];
        final int[] seconds = new int[MAX_RULES];

        void clear() {
            kinds = 0;
            groups = 0;
            size = 0;
            length = FIRST_LENGTH;
            minutes = MAX_MINUTES;
            nameCount = 0;
        }

        void copyOf(Rules other) {
            kinds = other.kinds;
            groups = other.groups;
            size = other.size;
            length = other.length;
            minutes = other.minutes;
            // The names are of use to the reader alone and stay with its own rules.
            for (int rule = 0; rule < MAX_RULES; rule++) {
                sorts[rule] = other.sorts[rule];
                sets[rule] = other.sets[rule];
                firsts[rule] = other.firsts[rule];
                seconds[rule] = other.seconds[rule];
            }
        }

        void addKind(long name) {
            if (kinds < MAX_KINDS) {
                addName(name, 1 << kinds);
                kinds++;
            }
        }

        void addGroup(long name, int set) {
            if (groups < MAX_GROUPS) {
                addName(name, set);
                groups++;
            }
        }

        private void addName(long name, int set) {
            if (nameCount < names.length) {
                names[nameCount] = name;
                nameSets[nameCount] = set;
                nameCount++;
            }
        }

        /** The kinds of a name; NONE if it is not told. */
        int setNamed(long name) {
            for (int i = 0; i < nameCount; i++) {
                if (names[i] == name) {
                    return nameSets[i];
                }
            }
            return NONE;
        }

        void addRule(int sort, int set, int first, int second) {
            if (size < MAX_RULES) {
                sorts[size] = sort;
                sets[size] = set;
                firsts[size] = first;
                seconds[size] = second;
                size++;
            }
        }

        boolean isKind(int kind) {
            return kind >= 0 && kind < kinds;
        }

        boolean isSet(int set) {
            return set >= 0 && set < (1 << kinds);
        }

        boolean hasSort(int sort) {
            for (int rule = 0; rule < size; rule++) {
                if (sorts[rule] == sort) {
                    return true;
                }
            }
            return false;
        }

        boolean isHad(int rule, int set) {
            return (sets[rule] & set) != 0;
        }

        /** Whether a rule keeps a number from verse to verse. */
        boolean isCounting(int rule) {
            int sort = sorts[rule];
            return sort == RUN || sort == GAP || sort == MOST || sort == LEAST;
        }

        /** A rule's number behind no verse. */
        int firstNumber(int rule) {
            return sorts[rule] == GAP ? firsts[rule] : 0;
        }

        /** A rule's number behind one verse more, which has the rule's name or not. */
        int nextNumber(int rule, int number, boolean has) {
            int most = firsts[rule];
            switch (sorts[rule]) {
                case RUN: return has ? number + 1 : 0;
                case GAP: return has ? 0 : Math.min(number + 1, most);
                case MOST: return has ? number + 1 : number;
                case LEAST: return Math.min(has ? number + 1 : number, most);
                default: return 0;
            }
        }

        /** Whether a verse breaks a rule that looks at its name alone; number: behind the one ahead. */
        boolean isBrokenBy(int rule, int number, int place, boolean has) {
            int first = firsts[rule];
            switch (sorts[rule]) {
                case AT: return !has && place >= first && place <= seconds[rule];
                case NOT: return has && place >= first && place <= seconds[rule];
                case RUN: return isRunBroken(rule, number, place, has);
                case GAP: return has && number > 0 && number < first;
                case MOST: return has && number + 1 > first;
                case LEAST: return number + (has ? 1 : 0) + length - place < first;
                default: return false;
            }
        }

        private boolean isRunBroken(int rule, int number, int place, boolean has) {
            if (!has) {
                return number > 0 && number < firsts[rule];
            }
            return number + 1 > seconds[rule] || (place == length && number + 1 < firsts[rule]);
        }
    }

    /** The tape, and the reading of it as a text into rules of its own. */
    private static final class Reader {
        private static final int END = 0;
        private static final int WORD = 1;
        private static final int NAME = 2;
        private static final int NUMBER = 3;
        private static final int SIGN = 4;
        private static final int BAD = 5;
        private static final int NAME_LETTERS = 8;
        private static final int NUMBER_DIGITS = 3;

        final Rules told = new Rules();
        final int[] bytes = new int[MAX_BYTES];
        int size;
        final long[] keywords = new long[KEYWORD_COUNT];
        private int next;
        private int fault;
        // The token: what it is, where it begins, and its number, sign or letters.
        private int token;
        private int start;
        private int number;
        private long letters;

        Reader() {
            int keyword = 0;
            long packed = 0;
            for (int i = 0; i < KEYWORDS.length() && keyword < KEYWORD_COUNT; i++) {
                char sign = KEYWORDS.charAt(i);
                if (sign == ' ') {
                    keywords[keyword] = packed;
                    keyword++;
                    packed = 0;
                } else {
                    packed = withLetter(packed, sign);
                }
            }
        }

        /** Eight letters of 5 bits fit in one long, so a name is no object. */
        private static long withLetter(long packed, int letter) {
            return packed * 32 + (letter - 'a' + 1);
        }

        void putBytes(long eight) {
            for (int shift = 56; shift >= 0; shift -= 8) {
                int one = (int) (eight >>> shift) & 255;
                if (one != 0 && size < MAX_BYTES) {
                    bytes[size] = one;
                    size++;
                }
            }
        }

        /** 0, or the fault; the tape is empty then. */
        int readText() {
            told.clear();
            next = 0;
            fault = 0;
            // Each telling takes a byte at least, so there are no more than bytes.
            for (int telling = 0; telling <= size && fault == 0; telling++) {
                scan();
                if (token == END) {
                    break;
                }
                if (token != WORD) {
                    setFault(1);
                } else if (isOneTooMany(number)) {
                    setFault(2);
                } else if (number <= SHIFT) {
                    readRule(number);
                } else {
                    readOther(number);
                }
                readSign(';');
            }
            size = 0;
            return fault;
        }

        private void readOther(int keyword) {
            switch (keyword) {
                case KIND: readKind(); break;
                case GROUP: readGroup(); break;
                case LENGTH: told.length = readNumber(1, MAX_LENGTH); break;
                default: told.minutes = readNumber(1, MAX_MINUTES); break;
            }
        }

        private boolean isOneTooMany(int keyword) {
            switch (keyword) {
                case KIND: return told.kinds >= MAX_KINDS;
                case GROUP: return told.groups >= MAX_GROUPS;
                case LENGTH: return false;
                case MINUTES: return false;
                default: return told.size >= MAX_RULES;
            }
        }

        private void readKind() {
            long name = readNewName();
            if (fault == 0) {
                told.addKind(name);
            }
        }

        private void readGroup() {
            long name = readNewName();
            readSign('=');
            int set = readToldName();
            // A list has fewer names than the tape has bytes.
            for (int i = 0; i < size && fault == 0 && isSignNext(','); i++) {
                readSign(',');
                set |= readToldName();
            }
            if (fault == 0) {
                told.addGroup(name, set);
            }
        }

        private void readRule(int sort) {
            int set = 0;
            int first = 0;
            int second = 0;
            switch (sort) {
                case AT:
                case NOT:
                    first = readNumber(1, MAX_LENGTH);
                    readSign('-');
                    second = readNumber(first, MAX_LENGTH);
                    set = readToldName();
                    break;
                case RUN:
                    set = readToldName();
                    first = readNumber(1, 9);
                    readSign('-');
                    second = readNumber(first, 9);
                    break;
                case GAP:
                    set = readToldName();
                    first = readNumber(1, 9);
                    break;
                case MOST:
                    set = readToldName();
                    first = readNumber(0, MAX_LENGTH);
                    break;
                case LEAST:
                    set = readToldName();
                    first = readNumber(1, MAX_LENGTH);
                    break;
                case AGAIN:
                    first = readNumber(1, 9);
                    break;
                default:
                    break;
            }
            if (fault == 0) {
                told.addRule(sort, set, first, second);
            }
        }

        private void readSign(char sign) {
            if (fault != 0) {
                return;
            }
            scan();
            if (token != SIGN || number != sign) {
                setFault(1);
            }
        }

        private int readNumber(int least, int most) {
            if (fault != 0) {
                return 0;
            }
            scan();
            if (token != NUMBER) {
                setFault(1);
            } else if (number < least || number > most) {
                setFault(5);
            }
            return number;
        }

        private long readNewName() {
            if (fault != 0) {
                return 0;
            }
            scan();
            if (token != NAME) {
                setFault(1);
            } else if (told.setNamed(letters) != NONE) {
                setFault(3);
            }
            return letters;
        }

        private int readToldName() {
            if (fault != 0) {
                return 0;
            }
            scan();
            int set = token == NAME ? told.setNamed(letters) : 0;
            if (token != NAME) {
                setFault(1);
            } else if (set == NONE) {
                setFault(4);
            }
            return set;
        }

        private void setFault(int kind) {
            if (fault == 0) {
                fault = start * 10 + kind;
            }
        }

        private boolean isSignNext(char sign) {
            skipBlanks();
            return next < size && bytes[next] == sign;
        }

        private void skipBlanks() {
            while (next < size && (bytes[next] == 32 || bytes[next] == 10)) {
                next++;
            }
        }

        private void scan() {
            skipBlanks();
            start = next;
            number = 0;
            letters = 0;
            if (next >= size) {
                token = END;
            } else if (isLetter(bytes[next])) {
                scanWord();
            } else if (isDigit(bytes[next])) {
                scanNumber();
            } else {
                number = bytes[next];
                token = number == ';' || number == '=' || number == ',' || number == '-' ? SIGN : BAD;
                next++;
            }
        }

        private void scanWord() {
            while (next < size && isLetter(bytes[next])) {
                letters = withLetter(letters, bytes[next]);
                next++;
            }
            if (next - start > NAME_LETTERS) {
                token = BAD;
                return;
            }
            token = NAME;
            for (int keyword = 0; keyword < KEYWORD_COUNT; keyword++) {
                if (keywords[keyword] == letters) {
                    token = WORD;
                    number = keyword;
                }
            }
        }

        private void scanNumber() {
            while (next < size && isDigit(bytes[next])) {
                number = number * 10 + (bytes[next] - '0');
                next++;
            }
            token = next - start > NUMBER_DIGITS ? BAD : NUMBER;
        }

        private static boolean isLetter(int one) {
            return one >= 'a' && one <= 'z';
        }

        private static boolean isDigit(int one) {
            return one >= '0' && one <= '9';
        }
    }

    /** The year, and which set a word has from which year on. */
    private static final class Book {
        int year;
        int size;
        final int[] words = new int[MAX_ENTRIES];
        final int[] years = new int[MAX_ENTRIES];
        final int[] sets = new int[MAX_ENTRIES];

        void clear() {
            size = 0;
        }

        int put(int word, int from, int set) {
            for (int i = 0; i < size; i++) {
                if (words[i] == word && years[i] == from) {
                    sets[i] = set;
                    return size;
                }
            }
            if (size >= MAX_ENTRIES) {
                return NONE;
            }
            words[size] = word;
            years[size] = from;
            sets[size] = set;
            size++;
            return size;
        }

        int setOf(int word) {
            int set = 0;
            int latest = NONE;
            for (int i = 0; i < size; i++) {
                if (words[i] == word && years[i] <= year && years[i] > latest) {
                    latest = years[i];
                    set = sets[i];
                }
            }
            return set;
        }

        /** No entry has the word NONE, so that one adds nothing. */
        int setOfAll(int a, int b, int c) {
            return setOf(a) | setOf(b) | setOf(c);
        }
    }

    /** The values of two kinds, and what follows from them for sets. */
    private static final class Values {
        final int[] table = new int[MAX_KINDS * MAX_KINDS];

        void clear() {
            Arrays.fill(table, 0);
        }

        int change(int a, int b, int value) {
            int before = table[a * MAX_KINDS + b];
            table[a * MAX_KINDS + b] = value;
            table[b * MAX_KINDS + a] = value;
            return before;
        }

        int sumOf(int a, int b) {
            int sum = 0;
            for (int i = 0; i < MAX_KINDS; i++) {
                for (int j = 0; j < MAX_KINDS && (a >> i & 1) != 0; j++) {
                    if ((b >> j & 1) != 0) {
                        sum += table[i * MAX_KINDS + j];
                    }
                }
            }
            return sum;
        }

        boolean areLinked(int a, int b) {
            return (a & b) != 0 || sumOf(a, b) > 0;
        }
    }

    /** Who may speak. */
    private static final class Poets {
        int size;
        final int[] ranks = new int[MAX_POETS];
        final int[] verses = new int[MAX_POETS];
        final boolean[] passed = new boolean[MAX_POETS];

        int add(int rank) {
            if (size >= MAX_POETS) {
                return NONE;
            }
            ranks[size] = rank;
            size++;
            return size - 1;
        }

        int whoseTurn() {
            int who = NONE;
            for (int i = 0; i < size; i++) {
                if (!passed[i] && (who == NONE || isAheadOf(i, who))) {
                    who = i;
                }
            }
            return who;
        }

        private boolean isAheadOf(int one, int other) {
            if (verses[one] != verses[other]) {
                return verses[one] < verses[other];
            }
            return ranks[one] < ranks[other];
        }

        /** When all have passed none has any more, so somebody always has the turn. */
        void letPass(int poet) {
            passed[poet] = true;
            for (int i = 0; i < size; i++) {
                if (!passed[i]) {
                    return;
                }
            }
            forgetPasses();
        }

        void letTell(int poet) {
            verses[poet]++;
            forgetPasses();
        }

        void takeBack(int poet) {
            verses[poet]--;
            forgetPasses();
        }

        void leaveSheet() {
            Arrays.fill(verses, 0);
            forgetPasses();
        }

        private void forgetPasses() {
            for (int i = 0; i < size; i++) {
                passed[i] = false;
            }
        }
    }

    /** The verses told, on places 1 to size; a verse may be laid behind them to be looked at. */
    private static final class Sheet {
        final Rules rules;
        final Values values;
        int size;
        int wornCount;
        final int[] poets = new int[MAX_LENGTH + 1];
        final int[] sets = new int[MAX_LENGTH + 1];
        final int[] minutes = new int[MAX_LENGTH + 1];
        final int[] words = new int[(MAX_LENGTH + 1) * VERSE_WORDS];
        final boolean[] worn = new boolean[MAX_LENGTH + 1];
        // Each rule's number behind each place, so that a verse is looked at without those ahead.
        final int[] numbers = new int[(MAX_LENGTH + 1) * MAX_RULES];

        Sheet(Rules rules, Values values) {
            this.rules = rules;
            this.values = values;
        }

        void clear() {
            size = 0;
            wornCount = 0;
            for (int place = 0; place <= MAX_LENGTH; place++) {
                worn[place] = false;
            }
            for (int rule = 0; rule < rules.size; rule++) {
                numbers[rule] = rules.firstNumber(rule);
            }
        }

        boolean isTold(int place) {
            return place >= 1 && place <= size;
        }

        boolean isPlace(int place) {
            return place >= 1 && place <= rules.length;
        }

        void lay(int place, int set, int a, int b, int c) {
            if (!isPlace(place)) {
                return;
            }
            sets[place] = set;
            words[place * VERSE_WORDS] = a;
            words[place * VERSE_WORDS + 1] = b;
            words[place * VERSE_WORDS + 2] = c;
            for (int rule = 0; rule < rules.size; rule++) {
                int ahead = numbers[(place - 1) * MAX_RULES + rule];
                numbers[place * MAX_RULES + rule] = rules.nextNumber(rule, ahead, rules.isHad(rule, set));
            }
        }

        /** The first rule that the verse laid on a place breaks, or NONE. */
        int firstBroken(int place) {
            if (!isPlace(place)) {
                return NONE;
            }
            for (int rule = 0; rule < rules.size; rule++) {
                if (isBroken(rule, place)) {
                    return rule;
                }
            }
            return NONE;
        }

        private boolean isBroken(int rule, int place) {
            switch (rules.sorts[rule]) {
                case AGAIN: return isAgain(place, rules.firsts[rule]);
                case LINK: return place > 1 && !values.areLinked(sets[place - 1], sets[place]);
                case SHIFT: return place > 2 && values.areLinked(sets[place - 2], sets[place]);
                default:
                    int ahead = numbers[(place - 1) * MAX_RULES + rule];
                    return rules.isBrokenBy(rule, ahead, place, rules.isHad(rule, sets[place]));
            }
        }

        private boolean isAgain(int place, int reach) {
            for (int ahead = Math.max(1, place - reach); ahead < place; ahead++) {
                if (isWordShared(place, ahead)) {
                    return true;
                }
            }
            return false;
        }

        private boolean isWordShared(int one, int other) {
            for (int i = 0; i < VERSE_WORDS; i++) {
                int word = words[one * VERSE_WORDS + i];
                for (int j = 0; j < VERSE_WORDS; j++) {
                    if (word != NONE && word == words[other * VERSE_WORDS + j]) {
                        return true;
                    }
                }
            }
            return false;
        }

        private boolean isLinked(int place, int steps) {
            return place > steps && values.areLinked(sets[place - steps], sets[place]);
        }

        void keepNext(int poet, int taken) {
            if (size >= rules.length) {
                return;
            }
            size++;
            poets[size] = poet;
            minutes[size] = taken;
        }

        void dropLast() {
            wear(size, false);
            size--;
        }

        /** Whether that changed something. */
        boolean wear(int place, boolean is) {
            if (worn[place] == is) {
                return false;
            }
            worn[place] = is;
            wornCount += is ? 1 : -1;
            return true;
        }

        int howManyHave(int set) {
            int many = 0;
            for (int place = 1; place <= size; place++) {
                if ((sets[place] & set) != 0) {
                    many++;
                }
            }
            return many;
        }

        int partOf(int place, int what) {
            switch (what) {
                case 0: return poets[place];
                case 1: return sets[place];
                case 2:
                case 3:
                case 4: return words[place * VERSE_WORDS + what - 2];
                case 5: return worn[place] ? 1 : 0;
                case 6: return minutes[place];
                case 7: return isLinked(place, 1) ? 1 : 0;
                case 8: return isLinked(place, 2) ? 1 : 0;
                default: return NONE;
            }
        }
    }

    /** The unlike states behind one place, each as two longs (the counting rules' numbers, the sets). */
    private static final class States {
        private static final int SLOTS = 1024;
        private static final int INDEX_BITS = 9;
        private static final int NUMBER_BITS = 6;
        private static final int LOW_NUMBERS = 10;
        private static final int SET_SHIFT = 12;
        private static final int AHEAD_SHIFT = 20;

        final long[] lows = new long[MAX_STATES];
        final long[] highs = new long[MAX_STATES];
        int size;
        // A slot counts only with the stamp of now, so that clearing it is not needed.
        private final int[] slots = new int[SLOTS];
        private int stamp;

        void clear() {
            size = 0;
            stamp++;
        }

        static long lowPart(int i, long number) {
            return i < LOW_NUMBERS ? number << i * NUMBER_BITS : 0;
        }

        static long highPart(int i, long number) {
            return i < LOW_NUMBERS ? 0 : number << (i - LOW_NUMBERS) * NUMBER_BITS;
        }

        static long setsPart(long set, long ahead) {
            return (set << SET_SHIFT) + (ahead << AHEAD_SHIFT);
        }

        int numberOf(int state, int i) {
            long bits = i < LOW_NUMBERS
                ? lows[state] >>> i * NUMBER_BITS
                : highs[state] >>> (i - LOW_NUMBERS) * NUMBER_BITS;
            return (int) bits & 63;
        }

        int setOf(int state) {
            return (int) (highs[state] >>> SET_SHIFT) & (ALL_SETS - 1);
        }

        int setAhead(int state) {
            return (int) (highs[state] >>> AHEAD_SHIFT) & (ALL_SETS - 1);
        }

        /** The number of such a state, laid down if it is new; CROWDED if there is no room for it. */
        int lay(long low, long high) {
            long mixed = low * 0x9E3779B97F4A7C15L + high * 0xC2B2AE3D27D4EB4FL;
            int home = (int) (mixed >>> 40 ^ mixed >>> 20);
            for (int probe = 0; probe < SLOTS; probe++) {
                int slot = (home + probe) & (SLOTS - 1);
                if (slots[slot] >>> INDEX_BITS != stamp) {
                    return layInSlot(slot, low, high);
                }
                int state = slots[slot] & ((1 << INDEX_BITS) - 1);
                if (lows[state] == low && highs[state] == high) {
                    return state;
                }
            }
            return CROWDED;
        }

        private int layInSlot(int slot, long low, long high) {
            if (size >= MAX_STATES) {
                return CROWDED;
            }
            lows[size] = low;
            highs[size] = high;
            slots[slot] = stamp << INDEX_BITS | size;
            size++;
            return size - 1;
        }
    }

    /** The sets that may stand on one place: the types, or that of the verse there. */
    private static final class Candidates {
        private static final int UNKNOWN = -1;

        final Rules rules;
        final Values values;
        final int[] sets = new int[MAX_TYPES];
        // By candidate: the rules, as bits, whose name it has.
        final int[] hads = new int[MAX_TYPES];
        int size;
        // By set: the candidates, as bits, to which it is linked.
        private final int[] links = new int[ALL_SETS];

        Candidates(Rules rules, Values values) {
            this.rules = rules;
            this.values = values;
        }

        void clear() {
            size = 0;
            Arrays.fill(links, UNKNOWN);
        }

        void add(int set) {
            if (size >= MAX_TYPES) {
                return;
            }
            int had = 0;
            for (int rule = 0; rule < rules.size; rule++) {
                if (rules.isHad(rule, set)) {
                    had |= 1 << rule;
                }
            }
            sets[size] = set;
            hads[size] = had;
            size++;
        }

        /** The candidates, as bits, that are linked to a set. */
        int linkedTo(int set) {
            int known = set & (ALL_SETS - 1);
            if (links[known] == UNKNOWN) {
                int bits = 0;
                for (int i = 0; i < size; i++) {
                    if (values.areLinked(known, sets[i])) {
                        bits |= 1 << i;
                    }
                }
                links[known] = bits;
            }
            return links[known];
        }
    }

    /** What one state asks of the next set, and what state that makes. */
    private static final class Onward {
        final Rules rules;
        // The rules that keep a number; the others cost nothing by state.
        private final int[] counting = new int[MAX_RULES];
        private int countingSize;
        private int place;
        // The rules, as bits, that break if a set has their name, and if it has not:
        // those that the place alone decides, and all of them for one state.
        private int placeBreaksIfHad;
        private int placeBreaksIfNot;
        private int breaksIfHad;
        private int breaksIfNot;
        // The next state's numbers if the set has no name, and what each name changes in them.
        private long lowIfNot;
        private long highIfNot;
        private final long[] lowMore = new long[MAX_RULES];
        private final long[] highMore = new long[MAX_RULES];

        Onward(Rules rules) {
            this.rules = rules;
        }

        void takeRules() {
            countingSize = 0;
            for (int rule = 0; rule < rules.size; rule++) {
                if (rules.isCounting(rule)) {
                    counting[countingSize] = rule;
                    countingSize++;
                }
            }
        }

        int layFirst(States states) {
            long low = 0;
            long high = 0;
            for (int i = 0; i < countingSize; i++) {
                int number = rules.firstNumber(counting[i]);
                low += States.lowPart(i, number);
                high += States.highPart(i, number);
            }
            return states.lay(low, high);
        }

        void takePlace(int next) {
            place = next;
            placeBreaksIfHad = 0;
            placeBreaksIfNot = 0;
            for (int rule = 0; rule < rules.size; rule++) {
                if (!rules.isCounting(rule)) {
                    placeBreaksIfHad |= rules.isBrokenBy(rule, 0, place, true) ? 1 << rule : 0;
                    placeBreaksIfNot |= rules.isBrokenBy(rule, 0, place, false) ? 1 << rule : 0;
                }
            }
        }

        void takeState(States states, int state) {
            breaksIfHad = placeBreaksIfHad;
            breaksIfNot = placeBreaksIfNot;
            lowIfNot = 0;
            highIfNot = 0;
            for (int i = 0; i < countingSize; i++) {
                int rule = counting[i];
                int number = states.numberOf(state, i);
                breaksIfHad |= rules.isBrokenBy(rule, number, place, true) ? 1 << rule : 0;
                breaksIfNot |= rules.isBrokenBy(rule, number, place, false) ? 1 << rule : 0;
                takeNumbers(i, rules.nextNumber(rule, number, true), rules.nextNumber(rule, number, false));
            }
        }

        private void takeNumbers(int i, int ifHad, int ifNot) {
            lowIfNot += States.lowPart(i, ifNot);
            highIfNot += States.highPart(i, ifNot);
            lowMore[i] = States.lowPart(i, ifHad) - States.lowPart(i, ifNot);
            highMore[i] = States.highPart(i, ifHad) - States.highPart(i, ifNot);
        }

        boolean allows(int had) {
            return (had & breaksIfHad) == 0 && (~had & breaksIfNot) == 0;
        }

        int layNext(States states, int had, int set, int ahead) {
            long low = lowIfNot;
            long high = highIfNot + States.setsPart(set, ahead);
            for (int i = 0; i < countingSize; i++) {
                if ((had >> counting[i] & 1) != 0) {
                    low += lowMore[i];
                    high += highMore[i];
                }
            }
            return states.lay(low, high);
        }
    }

    /** The types, and whether and how the sheet can be filled with them. */
    private static final class Ending {
        final Rules rules;
        final Sheet sheet;
        final int[] types = new int[MAX_TYPES];
        int typeCount;
        int stateCount;
        // By place, of the latest search; NONE where it told nothing.
        final int[] fullTypes = new int[MAX_LENGTH + 1];
        final int[] canTypes = new int[MAX_LENGTH + 1];
        private final Candidates candidates;
        private boolean areTypesCandidates;
        private final Onward onward;
        private States from = new States();
        private States to = new States();
        private final int[] sizes = new int[MAX_LENGTH + 1];
        // By place, state behind it and candidate: the state behind the next place, or NONE.
        private final short[] nexts = new short[MAX_LENGTH * MAX_STATES * MAX_TYPES];
        // By place and state behind it: the least candidate that leads to the end, or NONE.
        private final byte[] leasts = new byte[(MAX_LENGTH + 1) * MAX_STATES];

        Ending(Rules rules, Values values, Sheet sheet) {
            this.rules = rules;
            this.sheet = sheet;
            candidates = new Candidates(rules, values);
            onward = new Onward(rules);
            Arrays.fill(fullTypes, NONE);
            Arrays.fill(canTypes, NONE);
        }

        void clear() {
            typeCount = 0;
            forget();
        }

        private void forget() {
            stateCount = 0;
            Arrays.fill(fullTypes, NONE);
            Arrays.fill(canTypes, NONE);
        }

        int addType(int set) {
            for (int i = 0; i < typeCount; i++) {
                if (types[i] == set) {
                    return NONE;
                }
            }
            if (typeCount >= MAX_TYPES) {
                return NONE;
            }
            types[typeCount] = set;
            typeCount++;
            return typeCount - 1;
        }

        int solve() {
            forget();
            areTypesCandidates = false;
            layStart();
            for (int place = 1; place <= rules.length; place++) {
                gather(place);
                if (!fill(place)) {
                    stateCount += to.size + 1;
                    return CROWDED;
                }
                stateCount += to.size;
                sizes[place] = to.size;
                States done = from;
                from = to;
                to = done;
            }
            if (from.size == 0) {
                return 0;
            }
            lookBack();
            walk();
            return 1;
        }

        private void layStart() {
            from.clear();
            onward.takeRules();
            onward.layFirst(from);
            sizes[0] = from.size;
            stateCount = from.size;
        }

        private boolean stands(int place) {
            return sheet.isTold(place) && !sheet.worn[place];
        }

        private int candidateCount(int place) {
            return stands(place) ? 1 : typeCount;
        }

        private void gather(int place) {
            if (stands(place)) {
                candidates.clear();
                candidates.add(sheet.sets[place]);
                areTypesCandidates = false;
            } else if (!areTypesCandidates) {
                candidates.clear();
                for (int i = 0; i < typeCount; i++) {
                    candidates.add(types[i]);
                }
                areTypesCandidates = true;
            }
        }

        /** Lays all states behind a place; false if they are too many. */
        private boolean fill(int place) {
            boolean isLink = place > 1 && rules.hasSort(LINK);
            boolean isShift = place > 2 && rules.hasSort(SHIFT);
            to.clear();
            onward.takePlace(place);
            for (int state = 0; state < from.size; state++) {
                int open = (1 << candidates.size) - 1;
                if (isLink) {
                    open &= candidates.linkedTo(from.setOf(state));
                }
                if (isShift) {
                    open &= ~candidates.linkedTo(from.setAhead(state));
                }
                onward.takeState(from, state);
                if (!fillFrom(state, place, open)) {
                    return false;
                }
            }
            return true;
        }

        private boolean fillFrom(int state, int place, int open) {
            int row = rowOf(place - 1, state);
            for (int i = 0; i < candidates.size; i++) {
                int next = NONE;
                if ((open >> i & 1) != 0 && onward.allows(candidates.hads[i])) {
                    next = onward.layNext(to, candidates.hads[i], candidates.sets[i], from.setOf(state));
                }
                if (next == CROWDED) {
                    return false;
                }
                nexts[row + i] = (short) next;
            }
            return true;
        }

        private static int rowOf(int place, int state) {
            return (place * MAX_STATES + state) * MAX_TYPES;
        }

        /** From the last place back: which states lead to the end, and by which candidates. */
        private void lookBack() {
            int last = rules.length;
            for (int state = 0; state < sizes[last]; state++) {
                leasts[last * MAX_STATES + state] = 0;
            }
            for (int place = last; place >= 1; place--) {
                int can = 0;
                for (int state = 0; state < sizes[place - 1]; state++) {
                    int leading = leadingFrom(state, place);
                    leasts[(place - 1) * MAX_STATES + state] = (byte) leastOf(leading);
                    can |= leading;
                }
                canTypes[place] = stands(place) ? NONE : can;
            }
        }

        private int leadingFrom(int state, int place) {
            int leading = 0;
            int row = rowOf(place - 1, state);
            for (int i = candidateCount(place) - 1; i >= 0; i--) {
                int next = nexts[row + i];
                if (next >= 0 && leasts[place * MAX_STATES + next] >= 0) {
                    leading |= 1 << i;
                }
            }
            return leading;
        }

        private static int leastOf(int bits) {
            for (int i = 0; i < MAX_TYPES; i++) {
                if ((bits >> i & 1) != 0) {
                    return i;
                }
            }
            return NONE;
        }

        private void walk() {
            int state = 0;
            for (int place = 1; place <= rules.length && state >= 0; place++) {
                int least = leasts[(place - 1) * MAX_STATES + state];
                if (least < 0) {
                    return;
                }
                fullTypes[place] = stands(place) ? NONE : least;
                state = nexts[rowOf(place - 1, state) + least];
            }
        }
    }

    /** The verses to be told, and the best try of the latest search. */
    private static final class Store {
        // More than all numbers that a search of three out of twenty goes through.
        private static final int MAX_STEPS = 10000;

        final Rules rules;
        final Values values;
        final Sheet sheet;
        final Book book;
        int size;
        final int[] words = new int[MAX_STORE * VERSE_WORDS];
        final int[] sets = new int[MAX_STORE];
        int bestSize;
        int bestWorth;
        final int[] bestPicks = new int[MAX_TRY];
        private final int[] picks = new int[MAX_TRY];
        private final int[] worths = new int[MAX_TRY];

        Store(Rules rules, Values values, Sheet sheet, Book book) {
            this.rules = rules;
            this.values = values;
            this.sheet = sheet;
            this.book = book;
        }

        void clear() {
            size = 0;
            forgetBest();
        }

        void forgetBest() {
            bestSize = 0;
        }

        int add(int a, int b, int c) {
            if (size >= MAX_STORE) {
                return NONE;
            }
            words[size * VERSE_WORDS] = a;
            words[size * VERSE_WORDS + 1] = b;
            words[size * VERSE_WORDS + 2] = c;
            size++;
            return size - 1;
        }

        /** Goes through all good tries by numbers; m is 1 to 3. */
        void search(int m) {
            if (sheet.size + m > rules.length) {
                return;
            }
            takeSets();
            int depth = 0;
            picks[0] = NONE;
            for (int step = 0; step < MAX_STEPS && depth >= 0; step++) {
                picks[depth]++;
                if (picks[depth] >= size) {
                    depth--;
                } else if (isGood(depth)) {
                    if (depth == m - 1) {
                        keepIfBetter(m);
                    } else {
                        depth++;
                        picks[depth] = NONE;
                    }
                }
            }
        }

        /** The stored verses would be told now, so their sets are by the year of now. */
        private void takeSets() {
            for (int i = 0; i < size; i++) {
                int first = i * VERSE_WORDS;
                sets[i] = book.setOfAll(words[first], words[first + 1], words[first + 2]);
            }
        }

        private boolean isGood(int depth) {
            int pick = picks[depth];
            for (int i = 0; i < depth; i++) {
                if (picks[i] == pick) {
                    return false;
                }
            }
            int place = sheet.size + 1 + depth;
            int first = pick * VERSE_WORDS;
            sheet.lay(place, sets[pick], words[first], words[first + 1], words[first + 2]);
            if (sheet.firstBroken(place) != NONE) {
                return false;
            }
            int ahead = depth == 0 ? 0 : worths[depth - 1];
            int more = place == 1 ? 0 : values.sumOf(sheet.sets[place - 1], sets[pick]);
            worths[depth] = ahead + more;
            return true;
        }

        private void keepIfBetter(int m) {
            int worth = worths[m - 1];
            if (bestSize != 0 && worth <= bestWorth) {
                return;
            }
            bestSize = m;
            bestWorth = worth;
            for (int i = 0; i < m; i++) {
                bestPicks[i] = picks[i];
            }
        }
    }
}
