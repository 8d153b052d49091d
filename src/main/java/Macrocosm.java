/** A text whose blocks make operators and macros of their own, with its faults, meanings and expansion. */
public final class Macrocosm {
    private static final int MOST_CHARACTERS = 120;
    private static final int LETTERS = 26;
    private static final int TOO_GREAT = 5;

    // A making takes nine characters at least, so that few stand in a block, and each of at most
    // 301 blocks and 201 uses binds few.
    private static final int MOST_BINDINGS = 4000;

    // A part writes at most ten characters, and at most four tokens, a ; with them.
    private static final int MOST_EXPANDED = 10 * (Expansion.MOST_PARTS + 1);
    private static final int MOST_PLAIN_TOKENS = 4 * (Expansion.MOST_PARTS + 1);
    private static final int MOST_PLAIN_NODES = Expansion.MOST_PARTS + 10;

    private final Sheet text;
    private final Sheet textBefore;
    private final Row madeBefore;
    private final Sheet expandedText;
    private final Reader reader;
    private final Expansion expansion;
    private final Reader plainReader;
    private final Expansion plainExpansion;
    private boolean settled;
    private int foundFault;
    private int foundPlace;

    public Macrocosm() {
        text = new Sheet(MOST_CHARACTERS);
        textBefore = new Sheet(MOST_CHARACTERS);
        madeBefore = new Row(MOST_CHARACTERS);
        expandedText = new Sheet(MOST_EXPANDED);
        reader = new Reader(MOST_CHARACTERS, MOST_CHARACTERS + 8, MOST_CHARACTERS);
        expansion = new Expansion(reader, expandedText, MOST_BINDINGS);
        plainReader = new Reader(MOST_PLAIN_TOKENS, MOST_PLAIN_NODES, 0);
        plainExpansion = new Expansion(plainReader, new Sheet(0), MOST_PLAIN_NODES);
        settled = false;
        foundFault = 0;
        foundPlace = -1;
    }

    // ---- the text

    public int type(char character) throws IllegalStateException {
        return insertSafely(text.size(), character);
    }

    public int insert(int place, char character) throws IndexOutOfBoundsException, IllegalStateException {
        if (place < 0 || place > text.size()) {
            throw new IndexOutOfBoundsException("no such place");
        }
        return insertSafely(place, character);
    }

    public int erase(int place) throws IndexOutOfBoundsException {
        int character = text.get(place);
        if (character < 0) {
            throw new IndexOutOfBoundsException("no such character");
        }
        text.takeOut(place);
        settled = false;
        return character;
    }

    public int clear() {
        int had = text.size();
        text.wipe();
        settled = false;
        return had;
    }

    public int length() {
        return text.size();
    }

    public int at(int place) throws IndexOutOfBoundsException {
        int character = text.get(place);
        if (character < 0) {
            throw new IndexOutOfBoundsException("no such character");
        }
        return character;
    }

    // ---- faults, values

    public int fault() {
        settle();
        return foundFault;
    }

    public int faultPlace() {
        settle();
        return foundPlace;
    }

    public long value() throws IllegalStateException {
        if (settle() != 0) {
            throw new IllegalStateException("the text has a fault");
        }
        return expansion.result();
    }

    public long valueByText() throws IllegalStateException {
        if (settle() != 0) {
            throw new IllegalStateException("the text has a fault");
        }
        plainReader.read(expandedText);
        plainExpansion.expand(plainReader.root());
        return plainExpansion.result();
    }

    public int parts() throws IllegalStateException {
        if (settle() != 0) {
            throw new IllegalStateException("the text has a fault");
        }
        return expansion.partCount();
    }

    public int expanded() throws IllegalStateException {
        if (settle() != 0) {
            throw new IllegalStateException("the text has a fault");
        }
        return expandedText.size();
    }

    public int expandedAt(int place) throws IllegalStateException, IndexOutOfBoundsException {
        if (settle() != 0) {
            throw new IllegalStateException("the text has a fault");
        }
        int character = expandedText.get(place);
        if (character < 0) {
            throw new IndexOutOfBoundsException("no such character");
        }
        return character;
    }

    // ---- names

    public int tokens() {
        settle();
        return reader.tokenCount();
    }

    public int made(int place) throws IllegalStateException {
        if (settle() != 0) {
            throw new IllegalStateException("the text has a fault");
        }
        return reader.beginOf(reader.madeAt(reader.tokenAt(place)));
    }

    public int uses(int place) throws IllegalStateException {
        if (settle() != 0) {
            throw new IllegalStateException("the text has a fault");
        }
        int token = reader.tokenAt(place);
        return reader.madeAt(token) < 0 ? 0 : reader.countMeaning(reader.meaning(token));
    }

    public boolean rename(int place, int letter) throws IllegalArgumentException, IllegalStateException {
        if (letter < 0 || letter >= LETTERS) {
            throw new IllegalArgumentException("no such letter");
        }
        if (settle() != 0) {
            throw new IllegalStateException("the text has a fault");
        }
        int making = reader.meaning(reader.tokenAt(place));
        if (!reader.mayRename(making, letter + 1)) {
            return false;
        }
        rememberMeanings();
        writeLetter(making, (char) ('a' + letter));
        if (settle() == 0 && meansAsBefore()) {
            return true;
        }
        text.copy(textBefore);
        settled = false;
        return false;
    }

    public int holds(int place, int what)
            throws IndexOutOfBoundsException, IllegalArgumentException, IllegalStateException {
        if (place < 0 || place > text.size()) {
            throw new IndexOutOfBoundsException("no such place");
        }
        if (what < 0 || what >= Makings.SORTS) {
            throw new IllegalArgumentException("nothing of that kind holds");
        }
        if (settle() != 0) {
            throw new IllegalStateException("the text has a fault");
        }
        return reader.heldAt(place, what);
    }

    private int insertSafely(int place, char character) {
        if (text.size() >= MOST_CHARACTERS) {
            throw new IllegalStateException("the text is full");
        }
        text.squeezeIn(place, character);
        settled = false;
        return text.size();
    }

    private int settle() {
        if (!settled) {
            settled = true;
            reader.read(text);
            foundFault = reader.foundFault();
            foundPlace = reader.foundPlace();
            if (foundFault == 0) {
                expansion.expand(reader.root());
                if (expansion.isTooGreat()) {
                    foundFault = TOO_GREAT;
                    foundPlace = 0;
                }
            }
        }
        return foundFault;
    }

    private void rememberMeanings() {
        textBefore.copy(text);
        for (int token = 0; token < reader.tokenCount(); token++) {
            madeBefore.put(token, reader.madeAt(token));
        }
    }

    private boolean meansAsBefore() {
        for (int token = 0; token < reader.tokenCount(); token++) {
            if (reader.madeAt(token) != madeBefore.get(token)) {
                return false;
            }
        }
        return true;
    }

    private void writeLetter(int making, char letter) {
        // From the last token back, so that the places of those ahead still hold.
        for (int token = reader.tokenCount() - 1; token >= 0; token--) {
            if (reader.meaning(token) == making) {
                text.shortenName(reader.beginOf(token), letter);
            }
        }
        settled = false;
    }

    /** A row of numbers that may be asked and told at any index: outside it answers 0 and keeps nothing. */
    private static final class Row {
        private final int[] cells;

        Row(int most) {
            cells = new int[most > 0 ? most : 0];
        }

        int get(int at) {
            return at >= 0 && at < cells.length ? cells[at] : 0;
        }

        void put(int at, int value) {
            if (at >= 0 && at < cells.length) {
                cells[at] = value;
            }
        }
    }

    /** Characters in a row, as many as there is room for. */
    private static final class Sheet {
        private static final int GREATEST_UNIT = 100000000;
        private static final int GREATEST_LETTER_UNIT = LETTERS * LETTERS;

        private final char[] characters;
        private int size;

        Sheet(int most) {
            characters = new char[most > 0 ? most : 0];
            size = 0;
        }

        int size() {
            return size;
        }

        int get(int place) {
            return place >= 0 && place < size && place < characters.length ? characters[place] : -1;
        }

        void wipe() {
            size = 0;
        }

        void copy(Sheet other) {
            size = 0;
            for (int place = 0; place < other.size; place++) {
                add((char) other.get(place));
            }
        }

        void add(char character) {
            if (size >= 0 && size < characters.length) {
                characters[size] = character;
                size++;
            }
        }

        void addWord(String word) {
            for (int place = 0; place < word.length(); place++) {
                add(word.charAt(place));
            }
        }

        void addNumber(int number) {
            for (int unit = GREATEST_UNIT; unit > 0; unit /= 10) {
                if (unit == 1 || number >= unit) {
                    add((char) ('0' + number / unit % 10));
                }
            }
        }

        void addName(int index) {
            add('v');
            for (int unit = GREATEST_LETTER_UNIT; unit > 0; unit /= LETTERS) {
                if (unit == 1 || index >= unit) {
                    add((char) ('a' + index / unit % LETTERS));
                }
            }
        }

        void squeezeIn(int place, char character) {
            add(character);
            for (int to = size - 1; to > place; to--) {
                put(to, (char) get(to - 1));
            }
            put(place, character);
        }

        void takeOut(int place) {
            for (int to = place; to < size - 1; to++) {
                put(to, (char) get(to + 1));
            }
            if (place >= 0 && place < size) {
                size--;
            }
        }

        void shortenName(int place, char letter) {
            put(place, letter);
            for (int left = size; left > 0 && isLetter(get(place + 1)); left--) {
                takeOut(place + 1);
            }
        }

        private void put(int place, char character) {
            if (place >= 0 && place < size && place < characters.length) {
                characters[place] = character;
            }
        }

        static boolean isLetter(int character) {
            return character >= 'a' && character <= 'z';
        }

        static boolean isDigit(int character) {
            return character >= '0' && character <= '9';
        }
    }

    /** The tokens of a text up to the first that is none; behind them stands one of kind END or STRAY. */
    private static final class Tokens {
        static final int END = 0;
        static final int STRAY = 1;
        static final int NUMBER = 2;
        static final int NAME = 3;
        static final int SIGN = 4;
        static final int LET = 5;
        static final int OP = 6;
        static final int PRE = 7;
        static final int MAC = 8;

        private static final int LETTER_BASE = 27;
        private static final int LET_KEY = (12 * LETTER_BASE + 5) * LETTER_BASE + 20;
        private static final int OP_KEY = 15 * LETTER_BASE + 16;
        private static final int PRE_KEY = (16 * LETTER_BASE + 18) * LETTER_BASE + 5;
        private static final int MAC_KEY = (13 * LETTER_BASE + 1) * LETTER_BASE + 3;
        private static final int MOST_LETTERS = 6;
        private static final int MOST_DIGITS = 9;
        private static final String SIGNS = "+-*!#$%&?@~|:<>./";
        private static final String OTHER_MARKS = "=;,(){}^";
        private static final int GREATEST_MARK = '~';

        // A mark that is no sign is of the kind of its character's number. The key is the value of a
        // number, the character of a sign, and for a name a number that no other name has.
        final Row kind;
        final Row key;
        final Row begin;
        private int count;

        Tokens(int most) {
            kind = new Row(most + 1);
            key = new Row(most + 1);
            begin = new Row(most + 1);
            count = 0;
        }

        int count() {
            return count;
        }

        int tokenAt(int place) {
            for (int token = 0; token < count; token++) {
                if (begin.get(token) == place) {
                    return token;
                }
            }
            return -1;
        }

        int lastUpTo(int place) {
            int last = -1;
            for (int token = 0; token < count && begin.get(token) <= place; token++) {
                last = token;
            }
            return last;
        }

        void readAll(Sheet text) {
            count = 0;
            for (int place = 0; place < text.size(); place++) {
                if (!isBegin(text, place)) {
                    continue;
                }
                readOne(text, place);
                if (kind.get(count) == STRAY) {
                    return;
                }
                count++;
            }
            put(END, 0, text.size());
        }

        private boolean isBegin(Sheet text, int place) {
            int character = text.get(place);
            int ahead = text.get(place - 1);
            if (Sheet.isLetter(character)) {
                return !Sheet.isLetter(ahead);
            }
            if (Sheet.isDigit(character)) {
                return !Sheet.isDigit(ahead);
            }
            return character != ' ' && character != '\n';
        }

        private void readOne(Sheet text, int place) {
            int character = text.get(place);
            if (Sheet.isLetter(character)) {
                readName(text, place);
            } else if (Sheet.isDigit(character)) {
                readNumber(text, place);
            } else if (isAmong(SIGNS, character)) {
                put(SIGN, character, place);
            } else if (isAmong(OTHER_MARKS, character)) {
                put(character, 0, place);
            } else {
                put(STRAY, 0, place);
            }
        }

        // A String holds characters up to 255 alone, so that a greater one is not looked for in it.
        private boolean isAmong(String marks, int character) {
            return character >= 0 && character <= GREATEST_MARK && marks.indexOf((char) character) >= 0;
        }

        private void readName(Sheet text, int place) {
            int name = 0;
            int length = 0;
            for (; length <= MOST_LETTERS && Sheet.isLetter(text.get(place + length)); length++) {
                name = name * LETTER_BASE + text.get(place + length) - 'a' + 1;
            }
            put(length > MOST_LETTERS ? STRAY : kindOfRow(name), name, place);
        }

        private void readNumber(Sheet text, int place) {
            int number = 0;
            int length = 0;
            for (; length <= MOST_DIGITS && Sheet.isDigit(text.get(place + length)); length++) {
                number = number * 10 + text.get(place + length) - '0';
            }
            put(length > MOST_DIGITS ? STRAY : NUMBER, number, place);
        }

        private int kindOfRow(int name) {
            switch (name) {
                case LET_KEY:
                    return LET;
                case OP_KEY:
                    return OP;
                case PRE_KEY:
                    return PRE;
                case MAC_KEY:
                    return MAC;
                default:
                    return NAME;
            }
        }

        private void put(int newKind, int newKey, int place) {
            kind.put(count, newKind);
            key.put(count, newKey);
            begin.put(count, place);
        }
    }

    /** All that a text makes, and ahead of it what holds at first; they are numbered from 1, and 0 is none. */
    private static final class Makings {
        static final int NAME = 0;
        static final int MACRO = 1;
        static final int BETWEEN = 2;
        static final int AHEAD = 3;
        static final int SORTS = 4;
        static final int AT_FIRST = 3;

        // The sides, as the keys of their names l, n and r.
        static final int LEFT = 12;
        static final int NONE = 14;
        static final int RIGHT = 18;

        private static final int SUM_PRECEDENCE = 5;
        private static final int PRODUCT_PRECEDENCE = 6;

        final Row sort;
        final Row key;
        final Row token;
        // The key of a name that is made by let; 0 for all others, also for parameters.
        final Row letName;
        final Row isParameter;
        final Row parameters;
        final Row precedence;
        final Row side;
        final Row body;
        private int count;

        Makings(int most) {
            sort = new Row(most);
            key = new Row(most);
            token = new Row(most);
            letName = new Row(most);
            isParameter = new Row(most);
            parameters = new Row(most);
            precedence = new Row(most);
            side = new Row(most);
            body = new Row(most);
            count = 0;
        }

        void startAnew() {
            count = 0;
            addPlainSign('+', SUM_PRECEDENCE);
            addPlainSign('-', SUM_PRECEDENCE);
            addPlainSign('*', PRODUCT_PRECEDENCE);
        }

        int add(int newSort, int newKey, int where) {
            count++;
            sort.put(count, newSort);
            key.put(count, newKey);
            token.put(count, where);
            letName.put(count, newSort == NAME ? newKey : 0);
            isParameter.put(count, 0);
            parameters.put(count, 0);
            precedence.put(count, 0);
            side.put(count, 0);
            body.put(count, 0);
            return count;
        }

        // A making's parameters are added just behind it, so that they have the numbers behind its own.
        int addParameter(int making, int newKey, int where) {
            int parameter = add(NAME, newKey, where);
            letName.put(parameter, 0);
            isParameter.put(parameter, 1);
            parameters.put(making, parameter - making);
            return parameter;
        }

        boolean hasParameter(int making, int name) {
            int last = making + parameters.get(making);
            for (int parameter = making + 1; parameter <= last; parameter++) {
                if (key.get(parameter) == name) {
                    return true;
                }
            }
            return false;
        }

        private void addPlainSign(char sign, int plainPrecedence) {
            int making = add(BETWEEN, sign, -1);
            precedence.put(making, plainPrecedence);
            side.put(making, LEFT);
        }
    }

    /** What holds where the reader is, the newest last. */
    private static final class Scope {
        private final Makings makings;
        private final Row entry;
        private final Row hidesOther;
        private int size;
        // How many different ones hold, of each sort.
        final Row held;

        Scope(Makings makings, int most) {
            this.makings = makings;
            entry = new Row(most);
            hidesOther = new Row(most);
            held = new Row(Makings.SORTS);
            size = 0;
        }

        void startAnew() {
            size = 0;
            for (int sort = 0; sort < Makings.SORTS; sort++) {
                held.put(sort, 0);
            }
            for (int making = 1; making <= Makings.AT_FIRST; making++) {
                push(making);
            }
        }

        int size() {
            return size;
        }

        // The newest one that holds, of those behind a mark.
        int find(int mark, int sort, int key) {
            for (int at = size - 1; at >= mark; at--) {
                int making = entry.get(at);
                if (makings.sort.get(making) == sort && makings.key.get(making) == key) {
                    return making;
                }
            }
            return 0;
        }

        boolean hasLet(int name) {
            for (int at = size - 1; at >= 0; at--) {
                if (makings.letName.get(entry.get(at)) == name) {
                    return true;
                }
            }
            return false;
        }

        void push(int making) {
            int sort = makings.sort.get(making);
            boolean hides = find(0, sort, makings.key.get(making)) != 0;
            entry.put(size, making);
            hidesOther.put(size, hides ? 1 : 0);
            if (!hides) {
                held.put(sort, held.get(sort) + 1);
            }
            size++;
        }

        void cutTo(int mark) {
            for (int at = size - 1; at >= mark; at--) {
                int sort = makings.sort.get(entry.get(at));
                if (hidesOther.get(at) == 0) {
                    held.put(sort, held.get(sort) - 1);
                }
            }
            size = mark;
        }
    }

    /** What was read, as nodes that are numbered from 1; 0 is none. */
    private static final class Tree {
        static final int NUMBER = 1;
        static final int NAME = 2;
        static final int PARAMETER = 3;
        static final int CARET = 4;
        static final int PLAIN_SIGN = 5;
        static final int USE = 6;
        static final int BLOCK = 7;
        static final int LET = 8;
        static final int MAKING = 9;

        // The subject is a number's value, the key of a name behind ^, a plain sign's character,
        // or else what is meant or made.
        final Row kind;
        final Row subject;
        final Row first;
        final Row next;
        private final Row last;
        private int count;

        Tree(int most) {
            kind = new Row(most);
            subject = new Row(most);
            first = new Row(most);
            next = new Row(most);
            last = new Row(most);
            count = 0;
        }

        void startAnew() {
            count = 0;
        }

        int add(int newKind, int newSubject) {
            count++;
            kind.put(count, newKind);
            subject.put(count, newSubject);
            first.put(count, 0);
            next.put(count, 0);
            last.put(count, 0);
            return count;
        }

        void append(int node, int child) {
            if (first.get(node) == 0) {
                first.put(node, child);
            } else {
                next.put(last.get(node), child);
            }
            last.put(node, child);
        }
    }

    /** What waits for an expression or a statement to be read, the innermost last. */
    private static final class Frames {
        static final int TEXT = 0;
        static final int BLOCK = 1;
        static final int LET = 2;
        static final int MAKING = 3;
        static final int GROUP = 4;
        static final int MACRO = 5;
        static final int BETWEEN = 6;
        static final int AHEAD = 7;

        private final Row sort;
        private final Row least;
        private final Row making;
        private final Row node;
        private final Row mark;
        private final Row read;
        private int top;

        Frames(int most) {
            sort = new Row(most);
            least = new Row(most);
            making = new Row(most);
            node = new Row(most);
            mark = new Row(most);
            read = new Row(most);
            top = -1;
        }

        void startAnew() {
            top = -1;
        }

        void push(int newSort, int newLeast, int newMaking, int newNode, int newMark) {
            top++;
            sort.put(top, newSort);
            least.put(top, newLeast);
            making.put(top, newMaking);
            node.put(top, newNode);
            mark.put(top, newMark);
            read.put(top, 0);
        }

        void pop() {
            if (top >= 0) {
                top--;
            }
        }

        int sort() {
            return sort.get(top);
        }

        // The least precedence of the expression that is waited for.
        int least() {
            return least.get(top);
        }

        int making() {
            return making.get(top);
        }

        int node() {
            return node.get(top);
        }

        // How much held at the beginning, or the token of the name or sign that is used.
        int mark() {
            return mark.get(top);
        }

        int partsRead() {
            return read.get(top);
        }

        void countPart() {
            read.put(top, read.get(top) + 1);
        }

        int innermostMaking() {
            for (int at = top; at >= 0; at--) {
                if (sort.get(at) == MAKING) {
                    return making.get(at);
                }
            }
            return 0;
        }
    }

    /** Reads a text from left to right up to its first fault. */
    private static final class Reader {
        private static final int MOST_STEPS = 1000000;
        private static final int LEAST_PRECEDENCE = 1;
        private static final int MOST_PRECEDENCE = 9;
        private static final int MOST_PARAMETERS = 3;

        private static final int CANNOT_STAND = 1;
        private static final int MEANS_NOTHING = 2;
        private static final int MAY_NOT_FOLLOW = 3;
        private static final int WRONG_USE = 4;
        private static final int MADE_TWICE = 6;

        private static final int STATEMENT = 0;
        private static final int LET_HEAD = 1;
        private static final int SIGN_HEAD = 2;
        private static final int MACRO_HEAD = 3;
        private static final int PARAMETERS = 4;
        private static final int FIRST_PART = 5;
        private static final int NEXT_SIGN = 6;
        private static final int WHOLE = 7;
        private static final int PART_END = 8;
        private static final int STATEMENT_END = 9;
        private static final int DONE = 10;

        private final Tokens tokens;
        private final Makings makings;
        private final Scope scope;
        private final Tree tree;
        private final Frames frames;
        private final Row meanings;
        private final Row held;
        private final Row caretNames;
        private final Row caretOwners;
        private int caretCount;
        private int here;
        private int mode;
        // The making whose head is being read, or was last.
        private int headed;
        private int operand;
        private int fault;
        private int faultPlace;
        private int root;

        // Meanings, what holds, and names behind ^ are remembered for the first tokens, as many as mostTold.
        Reader(int mostTokens, int mostNodes, int mostTold) {
            tokens = new Tokens(mostTokens);
            makings = new Makings(mostNodes);
            scope = new Scope(makings, mostNodes);
            tree = new Tree(mostNodes);
            frames = new Frames(2 * mostNodes);
            meanings = new Row(mostTold);
            held = new Row(Makings.SORTS * mostTold);
            caretNames = new Row(mostTold);
            caretOwners = new Row(mostTold);
            mode = DONE;
            faultPlace = -1;
        }

        Makings makings() {
            return makings;
        }

        Tree tree() {
            return tree;
        }

        int root() {
            return root;
        }

        int foundFault() {
            return fault;
        }

        int foundPlace() {
            return faultPlace;
        }

        int tokenCount() {
            return tokens.count();
        }

        int tokenAt(int place) {
            return tokens.tokenAt(place);
        }

        int beginOf(int token) {
            return token < 0 ? -1 : tokens.begin.get(token);
        }

        int meaning(int token) {
            return meanings.get(token);
        }

        // The token at which that is made what a token means, or -1.
        int madeAt(int token) {
            int making = meanings.get(token);
            return making == 0 ? -1 : makings.token.get(making);
        }

        int countMeaning(int making) {
            int count = 0;
            for (int token = 0; token < tokens.count(); token++) {
                if (meanings.get(token) == making) {
                    count++;
                }
            }
            return count;
        }

        int heldAt(int place, int sort) {
            int token = tokens.lastUpTo(place);
            if (token < 0) {
                return sort == Makings.BETWEEN ? Makings.AT_FIRST : 0;
            }
            return held.get(Makings.SORTS * token + sort);
        }

        boolean mayRename(int making, int name) {
            int sort = makings.sort.get(making);
            int old = makings.key.get(making);
            if (making <= Makings.AT_FIRST || old == name || sort != Makings.NAME && sort != Makings.MACRO) {
                return false;
            }
            return !standsBehindCaret(name) && !standsBehindCaret(old);
        }

        private boolean standsBehindCaret(int name) {
            for (int caret = 0; caret < caretCount; caret++) {
                if (caretNames.get(caret) == name) {
                    return true;
                }
            }
            return false;
        }

        void read(Sheet text) {
            tokens.readAll(text);
            startAnew();
            for (int step = 0; step < MOST_STEPS && mode != DONE; step++) {
                switch (mode) {
                    case STATEMENT:
                        readStatement();
                        break;
                    case LET_HEAD:
                        readLetHead();
                        break;
                    case SIGN_HEAD:
                        readSignHead();
                        break;
                    case MACRO_HEAD:
                        readMacroHead();
                        break;
                    case PARAMETERS:
                        readParameters();
                        break;
                    case FIRST_PART:
                        readFirstPart();
                        break;
                    case NEXT_SIGN:
                        readNextSign();
                        break;
                    case WHOLE:
                        endExpression();
                        break;
                    case PART_END:
                        readPartEnd();
                        break;
                    default:
                        readStatementEnd();
                        break;
                }
            }
        }

        private void startAnew() {
            makings.startAnew();
            scope.startAnew();
            tree.startAnew();
            frames.startAnew();
            for (int token = 0; token < tokens.count(); token++) {
                meanings.put(token, 0);
            }
            caretCount = 0;
            here = 0;
            headed = 0;
            operand = 0;
            fault = 0;
            faultPlace = -1;
            root = tree.add(Tree.BLOCK, 0);
            frames.push(Frames.TEXT, LEAST_PRECEDENCE, 0, root, scope.size());
            mode = STATEMENT;
        }

        private int kind() {
            return tokens.kind.get(here);
        }

        private int key() {
            return tokens.key.get(here);
        }

        private void accept() {
            for (int sort = 0; sort < Makings.SORTS; sort++) {
                held.put(Makings.SORTS * here + sort, scope.held.get(sort));
            }
            here++;
        }

        private boolean take(int kind) {
            if (kind() != kind) {
                fail(CANNOT_STAND, here);
                return false;
            }
            accept();
            return true;
        }

        private void fail(int kindOfFault, int token) {
            fault = kindOfFault;
            faultPlace = tokens.begin.get(token);
            mode = DONE;
        }

        private void readStatement() {
            switch (kind()) {
                case Tokens.LET:
                    accept();
                    mode = LET_HEAD;
                    break;
                case Tokens.OP:
                case Tokens.PRE:
                    // The head itself takes the word, as it reads on by it.
                    mode = SIGN_HEAD;
                    break;
                case Tokens.MAC:
                    accept();
                    mode = MACRO_HEAD;
                    break;
                case ';':
                case '}':
                case Tokens.END:
                    mode = STATEMENT_END;
                    break;
                default:
                    mode = FIRST_PART;
                    break;
            }
        }

        private void readLetHead() {
            if (readMade(Tokens.NAME, Makings.NAME) && take('=')) {
                frames.push(Frames.LET, LEAST_PRECEDENCE, headed, 0, 0);
                mode = FIRST_PART;
            }
        }

        private void readSignHead() {
            int sort = kind() == Tokens.OP ? Makings.BETWEEN : Makings.AHEAD;
            accept();
            if (readMade(Tokens.SIGN, sort) && readPrecedence() && (sort == Makings.AHEAD || readSide())) {
                mode = PARAMETERS;
            }
        }

        private void readMacroHead() {
            if (readMade(Tokens.NAME, Makings.MACRO)) {
                mode = PARAMETERS;
            }
        }

        private boolean readMade(int kind, int sort) {
            if (kind() != kind) {
                fail(CANNOT_STAND, here);
                return false;
            }
            if (scope.find(frames.mark(), sort, key()) != 0) {
                fail(MADE_TWICE, here);
                return false;
            }
            headed = makings.add(sort, key(), here);
            meanings.put(here, headed);
            accept();
            return true;
        }

        private boolean readPrecedence() {
            int precedence = key();
            if (kind() != Tokens.NUMBER || precedence < LEAST_PRECEDENCE || precedence > MOST_PRECEDENCE) {
                fail(CANNOT_STAND, here);
                return false;
            }
            makings.precedence.put(headed, precedence);
            accept();
            return true;
        }

        private boolean readSide() {
            int side = key();
            boolean isSide = side == Makings.LEFT || side == Makings.RIGHT || side == Makings.NONE;
            if (kind() != Tokens.NAME || !isSide) {
                fail(CANNOT_STAND, here);
                return false;
            }
            makings.side.put(headed, side);
            accept();
            return true;
        }

        private void readParameters() {
            int sort = makings.sort.get(headed);
            int most = sort == Makings.MACRO ? MOST_PARAMETERS : sort == Makings.BETWEEN ? 2 : 1;
            int least = sort == Makings.MACRO ? 0 : most;
            if (!take('(')) {
                return;
            }
            boolean goesOn = least > 0 || kind() != ')';
            for (int count = 1; goesOn && count <= most; count++) {
                if (!readParameter()) {
                    return;
                }
                goesOn = count < least || count < most && kind() == ',';
                if (goesOn && !take(',')) {
                    return;
                }
            }
            if (take(')')) {
                beginBody();
            }
        }

        private boolean readParameter() {
            if (kind() != Tokens.NAME) {
                fail(CANNOT_STAND, here);
                return false;
            }
            if (makings.hasParameter(headed, key())) {
                fail(MADE_TWICE, here);
                return false;
            }
            meanings.put(here, makings.addParameter(headed, key(), here));
            accept();
            return true;
        }

        private void beginBody() {
            if (!take('=')) {
                return;
            }
            frames.push(Frames.MAKING, LEAST_PRECEDENCE, headed, 0, scope.size());
            int last = headed + makings.parameters.get(headed);
            for (int parameter = headed + 1; parameter <= last; parameter++) {
                scope.push(parameter);
            }
            mode = FIRST_PART;
        }

        private void readFirstPart() {
            switch (kind()) {
                case Tokens.NUMBER:
                    endPart(tree.add(Tree.NUMBER, key()));
                    break;
                case Tokens.NAME:
                    if (tokens.kind.get(here + 1) == '(') {
                        readMacroUse();
                    } else {
                        readName();
                    }
                    break;
                case Tokens.SIGN:
                    readSignAhead();
                    break;
                case '(':
                    frames.push(Frames.GROUP, LEAST_PRECEDENCE, 0, 0, 0);
                    accept();
                    break;
                case '{':
                    frames.push(Frames.BLOCK, LEAST_PRECEDENCE, 0, tree.add(Tree.BLOCK, 0), scope.size());
                    accept();
                    mode = STATEMENT;
                    break;
                case '^':
                    readCaret();
                    break;
                default:
                    fail(CANNOT_STAND, here);
                    break;
            }
        }

        private void endPart(int node) {
            accept();
            operand = node;
            mode = NEXT_SIGN;
        }

        private void readName() {
            int making = scope.find(0, Makings.NAME, key());
            if (making == 0) {
                fail(MEANS_NOTHING, here);
                return;
            }
            meanings.put(here, making);
            boolean isParameter = makings.isParameter.get(making) != 0;
            endPart(tree.add(isParameter ? Tree.PARAMETER : Tree.NAME, making));
        }

        private void readMacroUse() {
            int making = scope.find(0, Makings.MACRO, key());
            if (making == 0) {
                fail(WRONG_USE, here);
                return;
            }
            meanings.put(here, making);
            frames.push(Frames.MACRO, LEAST_PRECEDENCE, making, tree.add(Tree.USE, making), here);
            // The name and the bracket, which was looked at.
            accept();
            accept();
            mode = kind() == ')' ? PART_END : FIRST_PART;
        }

        private void readSignAhead() {
            int making = scope.find(0, Makings.AHEAD, key());
            if (making == 0) {
                fail(CANNOT_STAND, here);
                return;
            }
            meanings.put(here, making);
            int least = makings.precedence.get(making);
            frames.push(Frames.AHEAD, least, making, tree.add(Tree.USE, making), here);
            accept();
        }

        private void readCaret() {
            int owner = frames.innermostMaking();
            if (owner == 0) {
                fail(CANNOT_STAND, here);
                return;
            }
            accept();
            if (kind() != Tokens.NAME) {
                fail(CANNOT_STAND, here);
                return;
            }
            caretNames.put(caretCount, key());
            caretOwners.put(caretCount, owner);
            caretCount++;
            endPart(tree.add(Tree.CARET, key()));
        }

        private int signBetween() {
            return kind() == Tokens.SIGN ? scope.find(0, Makings.BETWEEN, key()) : 0;
        }

        private void readNextSign() {
            int making = signBetween();
            int precedence = makings.precedence.get(making);
            if (making == 0 || precedence < frames.least()) {
                mode = WHOLE;
                return;
            }
            boolean isPlain = making <= Makings.AT_FIRST;
            int node = isPlain ? tree.add(Tree.PLAIN_SIGN, key()) : tree.add(Tree.USE, making);
            tree.append(node, operand);
            meanings.put(here, making);
            int least = makings.side.get(making) == Makings.RIGHT ? precedence : precedence + 1;
            frames.push(Frames.BETWEEN, least, making, node, here);
            accept();
            mode = FIRST_PART;
        }

        private void endExpression() {
            switch (frames.sort()) {
                case Frames.BETWEEN:
                case Frames.AHEAD:
                    endOperation();
                    break;
                case Frames.GROUP:
                    if (take(')')) {
                        frames.pop();
                        mode = NEXT_SIGN;
                    }
                    break;
                case Frames.MACRO:
                    tree.append(frames.node(), operand);
                    frames.countPart();
                    mode = PART_END;
                    break;
                case Frames.LET:
                case Frames.MAKING:
                    endMaking();
                    break;
                default:
                    tree.append(frames.node(), operand);
                    mode = STATEMENT_END;
                    break;
            }
        }

        private void endOperation() {
            int making = frames.making();
            boolean isAlone = frames.sort() == Frames.BETWEEN && makings.side.get(making) == Makings.NONE;
            tree.append(frames.node(), operand);
            if (!caretsMeanSomething()) {
                return;
            }
            endNode();
            int following = signBetween();
            boolean isSame = makings.precedence.get(following) == makings.precedence.get(making);
            if (isAlone && following != 0 && isSame) {
                fail(MAY_NOT_FOLLOW, here);
            }
        }

        private void endNode() {
            operand = frames.node();
            frames.pop();
            mode = NEXT_SIGN;
        }

        // What a name behind ^ means is asked where that is used in whose expression it stands.
        private boolean caretsMeanSomething() {
            int making = frames.making();
            for (int caret = 0; caret < caretCount; caret++) {
                if (caretOwners.get(caret) == making && !scope.hasLet(caretNames.get(caret))) {
                    fail(MEANS_NOTHING, frames.mark());
                    return false;
                }
            }
            return true;
        }

        private void readPartEnd() {
            int wanted = makings.parameters.get(frames.making());
            if (kind() == ',' && frames.partsRead() < wanted) {
                accept();
                mode = FIRST_PART;
            } else if (kind() == ',' || kind() == ')' && frames.partsRead() != wanted) {
                fail(WRONG_USE, frames.mark());
            } else if (take(')') && caretsMeanSomething()) {
                endNode();
            }
        }

        private void endMaking() {
            int making = frames.making();
            boolean isLet = frames.sort() == Frames.LET;
            int node = tree.add(isLet ? Tree.LET : Tree.MAKING, making);
            if (isLet) {
                tree.append(node, operand);
            } else {
                makings.body.put(making, operand);
                scope.cutTo(frames.mark());
            }
            frames.pop();
            tree.append(frames.node(), node);
            scope.push(making);
            mode = STATEMENT_END;
        }

        private void readStatementEnd() {
            boolean isInBlock = frames.sort() == Frames.BLOCK;
            if (kind() == ';') {
                accept();
                mode = STATEMENT;
            } else if (kind() == '}' && isInBlock) {
                accept();
                scope.cutTo(frames.mark());
                endNode();
            } else if (kind() == Tokens.END && !isInBlock) {
                mode = DONE;
            } else {
                fail(CANNOT_STAND, here);
            }
        }
    }

    /** What holds while a tree is expanded: each binding knows the next one around it; they are numbered from 1. */
    private static final class Bindings {
        // Stands for no making: its site is what holds where that is used whose expression is expanded.
        static final int USE_SITE = -1;

        // For a name the number of its let, for a parameter its part.
        final Row content;
        // For a parameter what holds where its part stands.
        final Row site;
        final Row next;
        private final Makings makings;
        private final Row made;
        private final int most;
        private int count;

        Bindings(Makings makings, int most) {
            this.makings = makings;
            this.most = most;
            made = new Row(most + 1);
            content = new Row(most + 1);
            site = new Row(most + 1);
            next = new Row(most + 1);
            count = 0;
        }

        void startAnew() {
            count = 0;
        }

        boolean isFull() {
            return count >= most;
        }

        int bind(int around, int making, int newContent, int newSite) {
            if (count < most) {
                count++;
            }
            made.put(count, making);
            content.put(count, newContent);
            site.put(count, newSite);
            next.put(count, around);
            return count;
        }

        int find(int from, int making) {
            int at = from;
            for (int left = count; left > 0 && at > 0; left--) {
                if (made.get(at) == making) {
                    return at;
                }
                at = next.get(at);
            }
            return 0;
        }

        int findLet(int from, int name) {
            int at = from;
            for (int left = count; left > 0 && at > 0; left--) {
                if (makings.letName.get(made.get(at)) == name) {
                    return at;
                }
                at = next.get(at);
            }
            return 0;
        }
    }

    /** What is still to be done in an expansion, the next one last. */
    private static final class Work {
        private final Row task;
        private final Row subject;
        private final Row binding;
        private final int most;
        private int size;

        Work(int most) {
            this.most = most;
            task = new Row(most);
            subject = new Row(most);
            binding = new Row(most);
            size = 0;
        }

        void startAnew() {
            size = 0;
        }

        boolean isEmpty() {
            return size == 0;
        }

        boolean isFull() {
            return size >= most;
        }

        void push(int newTask, int newSubject, int newBinding) {
            if (size < most) {
                task.put(size, newTask);
                subject.put(size, newSubject);
                binding.put(size, newBinding);
                size++;
            }
        }

        void takeLast() {
            if (size > 0) {
                size--;
            }
        }

        int takenTask() {
            return task.get(size);
        }

        int takenSubject() {
            return subject.get(size);
        }

        int takenBinding() {
            return binding.get(size);
        }
    }

    /** Walks once through what was read, as it is expanded, and so finds text, number of parts, and value. */
    private static final class Expansion {
        static final int MOST_PARTS = 300;

        private static final int MOST_USES = 200;
        private static final int MOST_STEPS = 1000000;
        private static final int TASKS_OF_A_PART = 5;
        private static final int SOME_MORE = 10;

        private static final int FIRST_STATEMENT = 0;
        private static final int LATER_STATEMENT = 1;
        private static final int PART = 2;
        private static final int WRITE = 3;
        private static final int APPLY = 4;
        private static final int STORE = 5;

        private final Makings makings;
        private final Tree tree;
        private final Sheet written;
        private final Bindings bindings;
        private final Work work;
        private final long[] results;
        private final long[] letValues;
        private int resultCount;
        private int partCount;
        private int useCount;
        private int letCount;

        Expansion(Reader reader, Sheet written, int mostBindings) {
            makings = reader.makings();
            tree = reader.tree();
            this.written = written;
            bindings = new Bindings(makings, mostBindings);
            work = new Work(TASKS_OF_A_PART * (MOST_PARTS + SOME_MORE));
            results = new long[MOST_PARTS + SOME_MORE];
            letValues = new long[MOST_PARTS + SOME_MORE];
        }

        int partCount() {
            return partCount;
        }

        long result() {
            return results.length > 0 ? results[0] : 0;
        }

        boolean isTooGreat() {
            return partCount > MOST_PARTS || useCount > MOST_USES || bindings.isFull() || work.isFull();
        }

        void expand(int root) {
            startAnew();
            pushResult(0);
            work.push(FIRST_STATEMENT, tree.first.get(root), 0);
            for (int step = 0; step < MOST_STEPS && !work.isEmpty() && !isTooGreat(); step++) {
                work.takeLast();
                perform(work.takenTask(), work.takenSubject(), work.takenBinding());
            }
        }

        private void startAnew() {
            written.wipe();
            bindings.startAnew();
            work.startAnew();
            resultCount = 0;
            partCount = 0;
            useCount = 0;
            letCount = 0;
        }

        private void pushResult(long result) {
            if (resultCount >= 0 && resultCount < results.length) {
                results[resultCount] = result;
                resultCount++;
            }
        }

        private long popResult() {
            if (resultCount <= 0 || resultCount > results.length) {
                return 0;
            }
            resultCount--;
            return results[resultCount];
        }

        private void perform(int task, int subject, int binding) {
            switch (task) {
                case FIRST_STATEMENT:
                case LATER_STATEMENT:
                    expandStatement(task, subject, binding);
                    break;
                case PART:
                    expandPart(subject, binding);
                    break;
                case WRITE:
                    written.add((char) subject);
                    break;
                case APPLY:
                    applySign(subject);
                    break;
                default:
                    storeLet(subject);
                    break;
            }
        }

        private void expandStatement(int task, int node, int binding) {
            if (node == 0) {
                return;
            }
            int next = tree.next.get(node);
            if (tree.kind.get(node) == Tree.MAKING) {
                work.push(task, next, bindings.bind(binding, tree.subject.get(node), 0, 0));
                return;
            }
            if (task == LATER_STATEMENT) {
                written.add(';');
            }
            // The statement's value takes the place of that of the one ahead.
            popResult();
            if (tree.kind.get(node) == Tree.LET) {
                expandLet(node, binding);
            } else {
                work.push(LATER_STATEMENT, next, binding);
                work.push(PART, node, binding);
            }
        }

        private void expandLet(int node, int binding) {
            int index = letCount;
            letCount++;
            partCount++;
            written.addWord("let ");
            written.addName(index);
            written.add('=');
            int after = bindings.bind(binding, tree.subject.get(node), index, 0);
            work.push(LATER_STATEMENT, tree.next.get(node), after);
            work.push(STORE, index, 0);
            work.push(PART, tree.first.get(node), binding);
        }

        private void storeLet(int index) {
            long result = popResult();
            if (index >= 0 && index < letValues.length) {
                letValues[index] = result;
            }
            // A let is no expression, and counts as 0 where it is the last statement.
            pushResult(0);
        }

        private void expandPart(int node, int binding) {
            int subject = tree.subject.get(node);
            int found;
            switch (tree.kind.get(node)) {
                case Tree.NUMBER:
                    partCount++;
                    written.addNumber(subject);
                    pushResult(subject);
                    break;
                case Tree.NAME:
                    expandName(bindings.find(binding, subject));
                    break;
                case Tree.CARET:
                    found = bindings.find(binding, Bindings.USE_SITE);
                    expandName(bindings.findLet(bindings.site.get(found), subject));
                    break;
                case Tree.PARAMETER:
                    found = bindings.find(binding, subject);
                    work.push(PART, bindings.content.get(found), bindings.site.get(found));
                    break;
                case Tree.PLAIN_SIGN:
                    expandPlainSign(node, binding);
                    break;
                case Tree.USE:
                    expandUse(node, binding);
                    break;
                default:
                    expandBlock(node, binding);
                    break;
            }
        }

        private void expandName(int binding) {
            int index = bindings.content.get(binding);
            partCount++;
            written.addName(index);
            pushResult(index >= 0 && index < letValues.length ? letValues[index] : 0);
        }

        private void expandPlainSign(int node, int binding) {
            int sign = tree.subject.get(node);
            int first = tree.first.get(node);
            partCount++;
            written.add('(');
            work.push(APPLY, sign, 0);
            work.push(WRITE, ')', 0);
            work.push(PART, tree.next.get(first), binding);
            work.push(WRITE, sign, 0);
            work.push(PART, first, binding);
        }

        private void applySign(int sign) {
            long second = popResult();
            long first = popResult();
            if (sign == '+') {
                pushResult(first + second);
            } else if (sign == '-') {
                pushResult(first - second);
            } else {
                pushResult(first * second);
            }
        }

        private void expandUse(int node, int binding) {
            int making = tree.subject.get(node);
            int inside = bindings.next.get(bindings.find(binding, making));
            int part = tree.first.get(node);
            int last = making + makings.parameters.get(making);
            useCount++;
            for (int parameter = making + 1; parameter <= last; parameter++) {
                inside = bindings.bind(inside, parameter, part, binding);
                part = tree.next.get(part);
            }
            inside = bindings.bind(inside, Bindings.USE_SITE, 0, binding);
            work.push(PART, makings.body.get(making), inside);
        }

        private void expandBlock(int node, int binding) {
            partCount++;
            written.add('{');
            pushResult(0);
            work.push(WRITE, '}', 0);
            work.push(FIRST_STATEMENT, tree.first.get(node), binding);
        }
    }
}
