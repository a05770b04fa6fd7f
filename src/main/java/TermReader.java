/**
 * Reads terms of a logic language from text, with operators that can be told and taken back, and
 * writes them again with quotes and no more brackets than are needed.
 *
 * All rows are made once, in the constructors: no call makes an object.
 */
public final class TermReader {
    private static final int NONE = -1;
    private static final int TEXT_MOST = 120;
    private static final int TERMS_MOST = 40;
    private static final int PARTS_MOST = 600;
    private static final int OPERATORS_MOST = 24;
    private static final int NAME_MOST = 24;
    private static final int STRING_MOST = 12;
    private static final int ARGUMENTS_MOST = 6;
    private static final int DEPTH_MOST = 14;
    private static final int LEVELS_MOST = 10;
    private static final int PACKED_MOST = 8;
    private static final int WHOLE_PRIORITY = 1200;
    private static final int ARGUMENT_PRIORITY = 999;
    private static final int COMMA_PRIORITY = 1000;
    private static final long INTEGER_MOST = 2147483647L;

    private static final int XFX = 0;
    private static final int XFY = 1;
    private static final int YFX = 2;
    private static final int FY = 3;
    private static final int FX = 4;
    private static final int XF = 5;
    private static final int YF = 6;

    /* Names of at most eight characters as op() is told them: the first character is the lowest byte. */
    private static final long MINUS = '-';
    private static final long COMMA = ',';
    private static final long DOT = '.';
    private static final long NIL = '[' | (long) ']' << 8;
    private static final long BRACES = '{' | (long) '}' << 8;

    /* A character of the text is at most a name's character and two brackets, two blanks, two quotes
       and a , (an operator's name), or a string's (three digits and a ,). */
    private static final int WRITTEN_MOST = 10 * TEXT_MOST;
    /* Beside the parts that are kept, those of the term that is being read: a string has fewer than
       two for each of its characters, all else at most one. */
    private static final int PARTS_ROOM = PARTS_MOST + 2 * TEXT_MOST;
    /* The names that no text tells, those of the terms that are kept, and those being read. */
    private static final int NAMES_ROOM = 6 + (TERMS_MOST + 1) * TEXT_MOST;

    private final CharRow source;
    private final CharRow output;
    private final CharRow names;
    private final Operators operators;
    private final Parts parts;
    private final Tokens tokens;
    private final Parser parser;
    private final Writer writer;
    private final int[] roots;
    private int rootsUsed;

    public TermReader() {
        source = new CharRow(TEXT_MOST);
        output = new CharRow(WRITTEN_MOST);
        names = new CharRow(NAMES_ROOM);
        operators = new Operators();
        parts = new Parts(names);
        tokens = new Tokens(source, names);
        parser = new Parser(tokens, operators, parts);
        writer = new Writer(output, names, operators, parts);
        roots = new int[TERMS_MOST];
        rootsUsed = 0;
    }

    public boolean text(long s) {
        int size = Packed.size(s);
        if (size == 0 || source.length() + size > TEXT_MOST) {
            return false;
        }
        for (int i = 0; i < size; i++) {
            if (!Chars.isPrintable(Packed.at(s, i))) {
                return false;
            }
        }
        for (int i = 0; i < size; i++) {
            source.add(Packed.at(s, i));
        }
        return true;
    }

    public void op(int priority, int type, long name) throws IllegalArgumentException, IllegalStateException {
        if (priority < 0 || priority > WHOLE_PRIORITY || type < XFX || type > YF || !Packed.isOperatorName(name)) {
            throw new IllegalArgumentException("no priority, no type or no name");
        }
        long key = Packed.trimmed(name);
        if (priority == 0) {
            operators.takeBack(type, key);
            return;
        }
        if (!operators.canTell(type, key)) {
            throw new IllegalStateException("infix and postfix, or too many");
        }
        operators.tell(priority, type, key);
    }

    public int read() throws IllegalArgumentException, IndexOutOfBoundsException {
        int partsBefore = parts.used();
        int namesBefore = names.length();
        int root = tokens.scan() ? parser.whole() : NONE;
        if (root == NONE) {
            parts.cut(partsBefore);
            names.cut(namesBefore);
            source.cut(0);
            throw new IllegalArgumentException("no term with an end behind it");
        }
        if (rootsUsed < 0 || rootsUsed >= TERMS_MOST || parts.used() > PARTS_MOST) {
            parts.cut(partsBefore);
            names.cut(namesBefore);
            throw new IndexOutOfBoundsException("too many terms or parts");
        }
        source.dropFirst(parser.end());
        roots[rootsUsed] = root;
        rootsUsed++;
        return rootsUsed - 1;
    }

    public int write(int t) throws IndexOutOfBoundsException {
        if (!isTerm(t)) {
            throw new IndexOutOfBoundsException("no such term");
        }
        writer.whole(roots[t]);
        return output.length();
    }

    public int written(int i) {
        return output.at(i);
    }

    public boolean again() {
        int size = output.length();
        if (size + 3 > TEXT_MOST) {
            return false;
        }
        source.cut(0);
        for (int i = 0; i < size; i++) {
            source.add(output.at(i));
        }
        source.add(' ');
        source.add('.');
        source.add(' ');
        return true;
    }

    public boolean alike(int t, int u) throws IndexOutOfBoundsException {
        if (!isTerm(t) || !isTerm(u)) {
            throw new IndexOutOfBoundsException("no such term");
        }
        return parts.same(roots[t], roots[u], 0);
    }

    public int look(int t, int what) throws IndexOutOfBoundsException, IllegalArgumentException {
        if (!isTerm(t)) {
            throw new IndexOutOfBoundsException("no such term");
        }
        int root = roots[t];
        switch (what) {
            case 0:
                return parts.kind(root);
            case 1:
                return parts.arity(root);
            case 2:
                return parts.isNamed(root) ? parts.nameSize(root) : parts.value(root);
            case 3:
                return parts.depth(root);
            default:
                throw new IllegalArgumentException("no such thing to look at");
        }
    }

    public int count(int what) throws IllegalArgumentException {
        switch (what) {
            case 0:
                return source.length();
            case 1:
                return rootsUsed;
            case 2:
                return parts.used();
            case 3:
                return operators.told();
            default:
                throw new IllegalArgumentException("no such thing to count");
        }
    }

    private boolean isTerm(int t) {
        return t >= 0 && t < rootsUsed && t < TERMS_MOST;
    }

    /** The kinds of characters. */
    private static final class Chars {
        static boolean isPrintable(int c) {
            return c >= 32 && c <= 126;
        }

        static boolean isSmall(int c) {
            return c >= 'a' && c <= 'z';
        }

        static boolean isLarge(int c) {
            return c >= 'A' && c <= 'Z';
        }

        static boolean isDigit(int c) {
            return c >= '0' && c <= '9';
        }

        static boolean isWord(int c) {
            return c >= 'a' && c <= 'z' || c >= 'A' && c <= 'Z' || c >= '0' && c <= '9' || c == '_';
        }

        static boolean isSign(int c) {
            switch (c) {
                case '+': case '-': case '*': case '/': case '\\': case '^': case '<': case '>': case '=':
                case '~': case ':': case '.': case '?': case '@': case '#': case '&': case '$':
                    return true;
                default:
                    return false;
            }
        }

        static boolean isPunctuation(int c) {
            switch (c) {
                case '(': case ')': case '[': case ']': case '{': case '}': case ',': case '|':
                    return true;
                default:
                    return false;
            }
        }

        /** What a digit is worth; NONE if it is none of that base (10 or 16). */
        static int digit(int c, int base) {
            if (isDigit(c)) {
                return c - '0';
            }
            return base == 16 && c >= 'a' && c <= 'f' ? c - 'a' + 10 : NONE;
        }
    }

    /** Up to eight characters in a long, the first one lowest, up to the first zero byte. */
    private static final class Packed {
        static int at(long s, int i) {
            return i >= 0 && i < PACKED_MOST ? (int) (s >>> (8 * i) & 255L) : 0;
        }

        static int size(long s) {
            for (int i = 0; i < PACKED_MOST; i++) {
                if (at(s, i) == 0) {
                    return i;
                }
            }
            return PACKED_MOST;
        }

        /** Without what stands behind the first zero byte. */
        static long trimmed(long s) {
            int size = size(s);
            return size >= PACKED_MOST ? s : s & ((1L << (8 * size)) - 1L);
        }

        static long ofText(String name) {
            long packed = 0L;
            for (int i = 0; i < name.length() && i < PACKED_MOST; i++) {
                packed |= (long) name.charAt(i) << (8 * i);
            }
            return packed;
        }

        /** 0, which is no name, if there are none or too many characters. */
        static long ofRow(CharRow row, int start, int size) {
            if (size < 1 || size > PACKED_MOST) {
                return 0L;
            }
            long packed = 0L;
            for (int i = 0; i < size; i++) {
                packed |= (row.at(start + i) & 255L) << (8 * i);
            }
            return packed;
        }

        static boolean isOperatorName(long s) {
            int size = size(s);
            int small = 0;
            int signs = 0;
            for (int i = 0; i < size; i++) {
                small += Chars.isSmall(at(s, i)) ? 1 : 0;
                signs += Chars.isSign(at(s, i)) ? 1 : 0;
            }
            if (size == 0 || small != size && signs != size) {
                return false;
            }
            return trimmed(s) != DOT && !(at(s, 0) == '/' && at(s, 1) == '*');
        }
    }

    /** A row of characters with room for so many. */
    private static final class CharRow {
        private final char[] row;
        private int length;

        CharRow(int most) {
            row = new char[most > 0 ? most : 0];
            length = 0;
        }

        int length() {
            return length;
        }

        int at(int i) {
            return i >= 0 && i < length && i < row.length ? row[i] : NONE;
        }

        void add(int c) {
            if (length >= 0 && length < row.length) {
                row[length] = (char) c;
                length++;
            }
        }

        void cut(int newLength) {
            if (newLength >= 0 && newLength < length) {
                length = newLength;
            }
        }

        void dropFirst(int dropped) {
            int kept = 0;
            for (int i = dropped > 0 ? dropped : 0; i < length && i < row.length; i++) {
                row[kept] = row[i];
                kept++;
            }
            length = kept;
        }
    }

    /** The operators; each has a slot, and a name that is prefix and infix has two. */
    private static final class Operators {
        private static final int ROOM = OPERATORS_MOST + 1;

        private final long[] keys;
        private final int[] priorities;
        private final int[] types;
        private int used;

        Operators() {
            keys = new long[ROOM];
            priorities = new int[ROOM];
            types = new int[ROOM];
            used = 0;
            // The , stands in a slot of its own, which is not counted: no call can name it.
            tell(COMMA_PRIORITY, XFY, COMMA);
            tell(1200, XFX, Packed.ofText(":-"));
            tell(1200, FX, Packed.ofText(":-"));
            tell(1100, XFY, Packed.ofText(";"));
            tell(1050, XFY, Packed.ofText("->"));
            tell(900, FY, Packed.ofText("\\+"));
            tell(700, XFX, Packed.ofText("="));
            tell(700, XFX, Packed.ofText("<"));
            tell(700, XFX, Packed.ofText("is"));
            tell(500, YFX, Packed.ofText("+"));
            tell(500, YFX, MINUS);
            tell(400, YFX, Packed.ofText("*"));
            tell(400, YFX, Packed.ofText("/"));
            tell(200, XFY, Packed.ofText("^"));
            tell(200, FY, MINUS);
        }

        int told() {
            return used - 1;
        }

        private static boolean isPrefixType(int type) {
            return type == FY || type == FX;
        }

        private static boolean isPostfixType(int type) {
            return type == XF || type == YF;
        }

        private boolean isSlot(int slot) {
            return slot >= 0 && slot < used && slot < ROOM;
        }

        private int find(boolean prefix, long key) {
            for (int i = 0; i < used && i < ROOM; i++) {
                if (keys[i] == key && isPrefixType(types[i]) == prefix) {
                    return i;
                }
            }
            return NONE;
        }

        /** The slot of a name as a prefix operator, or NONE. */
        int prefix(long key) {
            return find(true, key);
        }

        /** The slot of a name as an infix or postfix operator, or NONE. */
        int behind(long key) {
            return find(false, key);
        }

        boolean isOperator(long key) {
            return prefix(key) != NONE || behind(key) != NONE;
        }

        boolean canTell(int type, long key) {
            int slot = find(isPrefixType(type), key);
            return isSlot(slot) ? isPostfixType(types[slot]) == isPostfixType(type) : used < ROOM;
        }

        void tell(int priority, int type, long key) {
            int found = find(isPrefixType(type), key);
            int slot = found == NONE ? used : found;
            if (slot < 0 || slot >= ROOM) {
                return;
            }
            keys[slot] = key;
            priorities[slot] = priority;
            types[slot] = type;
            if (slot == used) {
                used++;
            }
        }

        void takeBack(int type, long key) {
            int slot = find(isPrefixType(type), key);
            int last = used - 1;
            if (!isSlot(slot) || !isSlot(last)) {
                return;
            }
            keys[slot] = keys[last];
            priorities[slot] = priorities[last];
            types[slot] = types[last];
            used = last;
        }

        int priority(int slot) {
            return isSlot(slot) ? priorities[slot] : 0;
        }

        private int type(int slot) {
            return isSlot(slot) ? types[slot] : NONE;
        }

        boolean isPrefix(int slot) {
            return isPrefixType(type(slot));
        }

        boolean isPostfix(int slot) {
            return isPostfixType(type(slot));
        }

        boolean isInfix(int slot) {
            int type = type(slot);
            return type == XFX || type == XFY || type == YFX;
        }

        /** Whether what stands behind its name may be of its own priority. */
        boolean isOpenBehind(int slot) {
            return type(slot) == XFY || type(slot) == FY;
        }

        /** The greatest priority of the argument ahead of its name. */
        int leftMost(int slot) {
            return type(slot) == YFX || type(slot) == YF ? priority(slot) : priority(slot) - 1;
        }

        /** The greatest priority of the argument behind its name. */
        int rightMost(int slot) {
            return isOpenBehind(slot) ? priority(slot) : priority(slot) - 1;
        }
    }

    /** The text taken apart, up to its first END. */
    private static final class Tokens {
        static final int END = 0;
        static final int NAME = 1;
        static final int VARIABLE = 2;
        static final int INTEGER = 3;
        static final int STRING = 4;
        static final int PUNCTUATION = 5;

        private final CharRow source;
        private final CharRow names;
        private final int[] kinds;
        private final int[] starts;
        private final int[] ends;
        /* An integer, a variable's number, a character, or where a name or string begins. */
        private final int[] values;
        private final int[] sizes;
        private final long[] keys;
        private int used;
        private int position;
        private int variables;

        Tokens(CharRow source, CharRow names) {
            this.source = source;
            this.names = names;
            kinds = new int[TEXT_MOST];
            starts = new int[TEXT_MOST];
            ends = new int[TEXT_MOST];
            values = new int[TEXT_MOST];
            sizes = new int[TEXT_MOST];
            keys = new long[TEXT_MOST];
            used = 0;
            position = 0;
            variables = 0;
        }

        /** False if there is an error, or no END: what stands behind an END is not looked at. */
        boolean scan() {
            used = 0;
            position = 0;
            variables = 0;
            for (int i = 0; i < TEXT_MOST; i++) {
                if (!skipLayout() || !scanToken()) {
                    return false;
                }
                if (kind(used - 1) == END) {
                    return true;
                }
            }
            return false;
        }

        private boolean isToken(int i) {
            return i >= 0 && i < used && i < TEXT_MOST;
        }

        /** Behind the last token there are only ENDs, so that no one reads on. */
        int kind(int i) {
            return isToken(i) ? kinds[i] : END;
        }

        int end(int i) {
            return isToken(i) ? ends[i] : source.length();
        }

        int value(int i) {
            return isToken(i) ? values[i] : 0;
        }

        int size(int i) {
            return isToken(i) ? sizes[i] : 0;
        }

        /** The packed name of a name or of a , that may be an operator, else 0. */
        long key(int i) {
            return isToken(i) ? keys[i] : 0L;
        }

        int stringCharacter(int i, int k) {
            return source.at(value(i) + k);
        }

        boolean isMark(int i, int c) {
            return isToken(i) && kinds[i] == PUNCTUATION && values[i] == c;
        }

        private boolean isNextTo(int i) {
            return isToken(i) && isToken(i + 1) && ends[i] == starts[i + 1];
        }

        boolean isCall(int i) {
            return kind(i) == NAME && isNextTo(i) && isMark(i + 1, '(');
        }

        boolean isMinusOfInteger(int i) {
            return kind(i) == NAME && key(i) == MINUS && isNextTo(i) && kind(i + 1) == INTEGER && !isQuoted(i);
        }

        private boolean isQuoted(int i) {
            return isToken(i) && source.at(starts[i]) == '\'';
        }

        boolean beginsTerm(int i) {
            switch (kind(i)) {
                case END:
                    return false;
                case PUNCTUATION:
                    return isMark(i, '(') || isMark(i, '[') || isMark(i, '{');
                default:
                    return true;
            }
        }

        private boolean skipLayout() {
            for (int i = 0; i <= TEXT_MOST; i++) {
                int c = source.at(position);
                if (c == ' ') {
                    position++;
                } else if (c == '%') {
                    position = source.length();
                } else if (c == '/' && source.at(position + 1) == '*') {
                    int behind = behindComment(position + 2);
                    if (behind == NONE) {
                        return false;
                    }
                    position = behind;
                } else {
                    return true;
                }
            }
            return true;
        }

        private int behindComment(int from) {
            for (int i = from; i < source.length(); i++) {
                if (source.at(i) == '*' && source.at(i + 1) == '/') {
                    return i + 2;
                }
            }
            return NONE;
        }

        private boolean scanToken() {
            int c = source.at(position);
            int next = source.at(position + 1);
            if (Chars.isSmall(c)) {
                return addPlainName(behindRow(false));
            }
            if (Chars.isLarge(c) || c == '_') {
                return addVariable(behindRow(false));
            }
            if (Chars.isDigit(c)) {
                return addInteger(c, next);
            }
            if (Chars.isSign(c)) {
                int end = behindRow(true);
                return isEnd(end) ? add(END, end, 0, 1, 0L) : addPlainName(end);
            }
            if (c == '\'') {
                return addQuotedName();
            }
            if (c == '"') {
                return addString();
            }
            if (c == '!' || c == ';') {
                return addPlainName(position + 1);
            }
            if (c == '[' && next == ']' || c == '{' && next == '}') {
                return addPlainName(position + 2);
            }
            return Chars.isPunctuation(c) && add(PUNCTUATION, position + 1, c, 1, c == ',' ? COMMA : 0L);
        }

        private boolean add(int kind, int end, int value, int size, long key) {
            if (used < 0 || used >= TEXT_MOST) {
                return false;
            }
            kinds[used] = kind;
            starts[used] = position;
            ends[used] = end;
            values[used] = value;
            sizes[used] = size;
            keys[used] = key;
            used++;
            position = end;
            return true;
        }

        /** Where the row of signs, or else of letters, digits and _, ends that begins here. */
        private int behindRow(boolean signs) {
            for (int i = position; i < source.length(); i++) {
                int c = source.at(i);
                if (signs ? !Chars.isSign(c) : !Chars.isWord(c)) {
                    return i;
                }
            }
            return source.length();
        }

        /** Whether the row of signs here, up to end, is a single . that ends a term. */
        private boolean isEnd(int end) {
            int behind = source.at(end);
            return end - position == 1 && source.at(position) == '.'
                && (behind == ' ' || behind == '%' || behind == NONE);
        }

        private boolean addPlainName(int end) {
            int start = names.length();
            for (int i = position; i < end && i < source.length(); i++) {
                names.add(source.at(i));
            }
            return addName(start, end);
        }

        /** The name is what has come into the names since start. */
        private boolean addName(int start, int end) {
            int size = names.length() - start;
            return size <= NAME_MOST && add(NAME, end, start, size, Packed.ofRow(names, start, size));
        }

        private boolean addQuotedName() {
            int start = names.length();
            int i = position + 1;
            for (int turn = 0; turn < TEXT_MOST; turn++) {
                int c = source.at(i);
                int next = source.at(i + 1);
                if (c == NONE) {
                    return false;
                }
                if (c == '\'' && next != '\'') {
                    return addName(start, i + 1);
                }
                int meant = c == '\\' ? escaped(next) : c;
                if (meant == NONE) {
                    return false;
                }
                names.add(meant);
                i += c == '\'' || c == '\\' ? 2 : 1;
            }
            return false;
        }

        private static int escaped(int c) {
            switch (c) {
                case 'n':
                    return '\n';
                case 't':
                    return '\t';
                case '\\': case '\'':
                    return c;
                default:
                    return NONE;
            }
        }

        private boolean addVariable(int end) {
            int size = end - position;
            return size <= NAME_MOST && add(VARIABLE, end, variableNumber(size), size, 0L);
        }

        /** Variables stand in the text as they do in the term, so they are numbered here. */
        private int variableNumber(int size) {
            boolean nameless = size == 1 && source.at(position) == '_';
            for (int i = 0; i < used && i < TEXT_MOST && !nameless; i++) {
                if (kinds[i] == VARIABLE && sizes[i] == size && isSameText(starts[i], size)) {
                    return values[i];
                }
            }
            variables++;
            return variables - 1;
        }

        private boolean isSameText(int start, int size) {
            for (int i = 0; i < size; i++) {
                if (source.at(start + i) != source.at(position + i)) {
                    return false;
                }
            }
            return true;
        }

        private boolean addInteger(int c, int next) {
            if (c == '0' && next == '\'') {
                int code = source.at(position + 2);
                return code != NONE && code != '\'' && code != '\\' && add(INTEGER, position + 3, code, 0, 0L);
            }
            // Without a digit behind 0x the longest token is the 0.
            if (c == '0' && next == 'x' && Chars.digit(source.at(position + 2), 16) != NONE) {
                return addDigits(position + 2, 16);
            }
            return addDigits(position, 10);
        }

        private boolean addDigits(int from, int base) {
            long value = 0L;
            int end = from;
            for (int i = from; i < source.length(); i++) {
                int digit = Chars.digit(source.at(i), base);
                if (digit == NONE) {
                    break;
                }
                value = value * base + digit;
                if (value > INTEGER_MOST) {
                    return false;
                }
                end = i + 1;
            }
            return add(INTEGER, end, (int) value, 0, 0L);
        }

        private boolean addString() {
            int start = position + 1;
            for (int i = start; i < source.length(); i++) {
                int c = source.at(i);
                if (c == '"') {
                    int size = i - start;
                    return size <= STRING_MOST && add(STRING, i + 1, start, size, 0L);
                }
                if (c == '\\') {
                    return false;
                }
            }
            return false;
        }
    }

    /** The parts of all terms; a part's arguments are a chain. */
    private static final class Parts {
        static final int VARIABLE = 0;
        static final int INTEGER = 1;
        static final int ATOM = 2;
        static final int COMPOUND = 3;

        /* Where the names begin that are in the names from the beginning. */
        static final int DOT_START = 0;
        static final int NIL_START = 1;
        static final int BRACES_START = 3;
        static final int COMMA_START = 5;

        private final CharRow names;
        private final int[] kinds;
        /* An integer, a variable's number, or where the name begins. */
        private final int[] values;
        private final int[] nameSizes;
        private final int[] firsts;
        private final int[] nexts;
        private final int[] depths;
        private int used;

        Parts(CharRow names) {
            this.names = names;
            names.add('.');
            names.add('[');
            names.add(']');
            names.add('{');
            names.add('}');
            names.add(',');
            kinds = new int[PARTS_ROOM];
            values = new int[PARTS_ROOM];
            nameSizes = new int[PARTS_ROOM];
            firsts = new int[PARTS_ROOM];
            nexts = new int[PARTS_ROOM];
            depths = new int[PARTS_ROOM];
            used = 0;
        }

        int used() {
            return used;
        }

        void cut(int newUsed) {
            if (newUsed >= 0 && newUsed < used) {
                used = newUsed;
            }
        }

        private boolean isPart(int part) {
            return part >= 0 && part < used && part < PARTS_ROOM;
        }

        int kind(int part) {
            return isPart(part) ? kinds[part] : NONE;
        }

        int value(int part) {
            return isPart(part) ? values[part] : 0;
        }

        int nameSize(int part) {
            return isPart(part) ? nameSizes[part] : 0;
        }

        int first(int part) {
            return isPart(part) ? firsts[part] : NONE;
        }

        int next(int part) {
            return isPart(part) ? nexts[part] : NONE;
        }

        int second(int part) {
            return next(first(part));
        }

        int depth(int part) {
            return isPart(part) ? depths[part] : 0;
        }

        void link(int part, int next) {
            if (isPart(part)) {
                nexts[part] = next;
            }
        }

        boolean isNamed(int part) {
            int kind = kind(part);
            return kind == ATOM || kind == COMPOUND;
        }

        /** The packed name of an atom or compound one that may be an operator, else 0. */
        long key(int part) {
            int kind = kind(part);
            return kind == ATOM || kind == COMPOUND ? Packed.ofRow(names, value(part), nameSize(part)) : 0L;
        }

        int arity(int part) {
            int arguments = 0;
            int argument = first(part);
            for (int i = 0; i < ARGUMENTS_MOST && argument != NONE; i++) {
                arguments++;
                argument = next(argument);
            }
            return arguments;
        }

        boolean isNil(int part) {
            return kind(part) == ATOM && key(part) == NIL;
        }

        boolean isList(int part) {
            return kind(part) == COMPOUND && key(part) == DOT && arity(part) == 2;
        }

        boolean isBraces(int part) {
            return kind(part) == COMPOUND && key(part) == BRACES && arity(part) == 1;
        }

        private int add(int kind, int value, int nameSize, int first, int depth) {
            if (used < 0 || used >= PARTS_ROOM) {
                return NONE;
            }
            kinds[used] = kind;
            values[used] = value;
            nameSizes[used] = nameSize;
            firsts[used] = first;
            nexts[used] = NONE;
            depths[used] = depth;
            used++;
            return used - 1;
        }

        int addVariable(int number) {
            return add(VARIABLE, number, 0, NONE, 1);
        }

        int addInteger(int value) {
            return add(INTEGER, value, 0, NONE, 1);
        }

        int addAtom(int nameStart, int nameSize) {
            return add(ATOM, nameStart, nameSize, NONE, 1);
        }

        /** With a chain of arguments; NONE if it would be too deep or one of them is missing. */
        int addCompound(int nameStart, int nameSize, int first) {
            int deepest = 0;
            int argument = first;
            for (int i = 0; i < ARGUMENTS_MOST && argument != NONE; i++) {
                deepest = Math.max(deepest, depth(argument));
                argument = next(argument);
            }
            boolean fits = deepest > 0 && deepest < DEPTH_MOST;
            return fits ? add(COMPOUND, nameStart, nameSize, first, deepest + 1) : NONE;
        }

        int addPair(int nameStart, int nameSize, int left, int right) {
            if (left == NONE || right == NONE) {
                return NONE;
            }
            link(left, right);
            link(right, NONE);
            return addCompound(nameStart, nameSize, left);
        }

        /** Since variables are numbered as they first stand, each has its fellow just if the numbers are the same. */
        private boolean same(int a, int b, int level) {
            if (level > DEPTH_MOST || kind(a) != kind(b)) {
                return false;
            }
            if (!isNamed(a)) {
                return value(a) == value(b);
            }
            if (!isSameName(a, b)) {
                return false;
            }
            int left = first(a);
            int right = first(b);
            for (int i = 0; i < ARGUMENTS_MOST && left != NONE && right != NONE; i++) {
                if (!same(left, right, level + 1)) {
                    return false;
                }
                left = next(left);
                right = next(right);
            }
            return left == NONE && right == NONE;
        }

        private boolean isSameName(int a, int b) {
            int size = nameSize(a);
            if (size != nameSize(b)) {
                return false;
            }
            for (int i = 0; i < size; i++) {
                if (names.at(value(a) + i) != names.at(value(b) + i)) {
                    return false;
                }
            }
            return true;
        }
    }

    /** Reads a term from the tokens; NONE stands for an error, which goes through to the whole. */
    private static final class Parser {
        private final Tokens tokens;
        private final Operators operators;
        private final Parts parts;
        private int at;
        /* Of the term, or the first part of one, that was read latest. */
        private int priority;

        Parser(Tokens tokens, Operators operators, Parts parts) {
            this.tokens = tokens;
            this.operators = operators;
            this.parts = parts;
            at = 0;
            priority = 0;
        }

        int whole() {
            at = 0;
            int root = term(WHOLE_PRIORITY, 0);
            return tokens.kind(at) == Tokens.END ? root : NONE;
        }

        /** Where the text goes on behind the END of the whole. */
        int end() {
            return tokens.end(at);
        }

        private int term(int most, int level) {
            if (level > LEVELS_MOST) {
                return NONE;
            }
            if (isPrefixed(most)) {
                return rest(prefixed(level), most, level);
            }
            int left = unit(level);
            priority = 0;
            return rest(left, most, level);
        }

        /** Whether the name here is taken as a prefix operator with an argument. */
        private boolean isPrefixed(int most) {
            if (tokens.kind(at) != Tokens.NAME || tokens.isCall(at) || tokens.isMinusOfInteger(at)) {
                return false;
            }
            int slot = operators.prefix(tokens.key(at));
            return slot != NONE && operators.priority(slot) <= most
                && tokens.beginsTerm(at + 1) && !isBareBehind(at + 1);
        }

        /** Whether it is a name that can only go on with a term, not begin one. */
        private boolean isBareBehind(int i) {
            if (tokens.kind(i) != Tokens.NAME || tokens.isCall(i) || tokens.isMinusOfInteger(i)) {
                return false;
            }
            long key = tokens.key(i);
            return operators.behind(key) != NONE && operators.prefix(key) == NONE;
        }

        private int prefixed(int level) {
            int name = at;
            int slot = operators.prefix(tokens.key(name));
            at++;
            int argument = term(operators.rightMost(slot), level + 1);
            priority = operators.priority(slot);
            return parts.addCompound(tokens.value(name), tokens.size(name), argument);
        }

        /** Goes on with infix and postfix operators, what has been read being the left one. */
        private int rest(int first, int most, int level) {
            int left = first;
            for (int i = 0; i < TEXT_MOST && left != NONE; i++) {
                int slot = operators.behind(tokens.key(at));
                boolean fits = slot != NONE && operators.priority(slot) <= most
                    && priority <= operators.leftMost(slot);
                if (!fits || operators.isInfix(slot) && !tokens.beginsTerm(at + 1)) {
                    return left;
                }
                left = operators.isInfix(slot) ? infixed(left, slot, level) : postfixed(left);
                priority = operators.priority(slot);
            }
            return left;
        }

        private int infixed(int left, int slot, int level) {
            int name = at;
            at++;
            int right = term(operators.rightMost(slot), level + 1);
            return named(name, left, right);
        }

        private int named(int name, int left, int right) {
            if (tokens.kind(name) == Tokens.NAME) {
                return parts.addPair(tokens.value(name), tokens.size(name), left, right);
            }
            return parts.addPair(Parts.COMMA_START, 1, left, right);
        }

        private int postfixed(int argument) {
            int name = at;
            at++;
            return parts.addCompound(tokens.value(name), tokens.size(name), argument);
        }

        /** A first part of priority 0. */
        private int unit(int level) {
            int here = at;
            switch (tokens.kind(here)) {
                case Tokens.INTEGER:
                    at++;
                    return parts.addInteger(tokens.value(here));
                case Tokens.VARIABLE:
                    at++;
                    return parts.addVariable(tokens.value(here));
                case Tokens.STRING:
                    at++;
                    return string(here);
                case Tokens.NAME:
                    return name(level);
                case Tokens.PUNCTUATION:
                    return enclosed(level);
                default:
                    return NONE;
            }
        }

        private int string(int token) {
            int list = parts.addAtom(Parts.NIL_START, 2);
            for (int i = tokens.size(token) - 1; i >= 0; i--) {
                int code = parts.addInteger(tokens.stringCharacter(token, i));
                list = parts.addPair(Parts.DOT_START, 1, code, list);
            }
            return list;
        }

        private int name(int level) {
            int here = at;
            if (tokens.isMinusOfInteger(here)) {
                at += 2;
                return parts.addInteger(-tokens.value(here + 1));
            }
            if (tokens.isCall(here)) {
                at += 2;
                return parts.addCompound(tokens.value(here), tokens.size(here), arguments(level));
            }
            at++;
            return parts.addAtom(tokens.value(here), tokens.size(here));
        }

        /** The chain of the arguments up to the ). */
        private int arguments(int level) {
            int first = NONE;
            int last = NONE;
            for (int i = 0; i < ARGUMENTS_MOST; i++) {
                int argument = term(ARGUMENT_PRIORITY, level + 1);
                if (argument == NONE) {
                    return NONE;
                }
                first = i == 0 ? argument : first;
                parts.link(last, argument);
                last = argument;
                if (!take(',')) {
                    return take(')') ? first : NONE;
                }
            }
            return NONE;
        }

        private boolean take(int mark) {
            if (!tokens.isMark(at, mark)) {
                return false;
            }
            at++;
            return true;
        }

        private int enclosed(int level) {
            if (take('(')) {
                int inner = term(WHOLE_PRIORITY, level + 1);
                return take(')') ? inner : NONE;
            }
            if (take('{')) {
                int inner = term(WHOLE_PRIORITY, level + 1);
                return take('}') ? parts.addCompound(Parts.BRACES_START, 2, inner) : NONE;
            }
            return take('[') ? list(level) : NONE;
        }

        private int list(int level) {
            int latest = NONE;
            for (int i = 0; i < TEXT_MOST; i++) {
                int element = term(ARGUMENT_PRIORITY, level + 1);
                if (element == NONE) {
                    return NONE;
                }
                // Until the end is known each element holds the one ahead of it.
                parts.link(element, latest);
                latest = element;
                if (!take(',')) {
                    break;
                }
            }
            int tail = take('|') ? term(ARGUMENT_PRIORITY, level + 1) : parts.addAtom(Parts.NIL_START, 2);
            return take(']') ? listed(latest, tail) : NONE;
        }

        private int listed(int latest, int tail) {
            int list = tail;
            int element = latest;
            for (int i = 0; i < TEXT_MOST && element != NONE; i++) {
                int ahead = parts.next(element);
                list = parts.addPair(Parts.DOT_START, 1, element, list);
                element = ahead;
            }
            return list;
        }
    }

    /** Writes a term by the operators that there are now. */
    private static final class Writer {
        private final CharRow output;
        private final CharRow names;
        private final Operators operators;
        private final Parts parts;

        Writer(CharRow output, CharRow names, Operators operators, Parts parts) {
            this.output = output;
            this.names = names;
            this.operators = operators;
            this.parts = parts;
        }

        void whole(int root) {
            output.cut(0);
            part(root, WHOLE_PRIORITY, 1);
        }

        private void part(int part, int most, int level) {
            if (level > DEPTH_MOST) {
                return;
            }
            switch (parts.kind(part)) {
                case Parts.VARIABLE:
                    output.add('_');
                    integer(parts.value(part));
                    break;
                case Parts.INTEGER:
                    integer(parts.value(part));
                    break;
                case Parts.ATOM:
                    name(part);
                    break;
                default:
                    compound(part, most, level);
                    break;
            }
        }

        private void compound(int part, int most, int level) {
            int slot = slotOf(part);
            if (slot != NONE) {
                bracketed(part, slot, most, level);
            } else if (parts.isList(part)) {
                list(part, level);
            } else if (parts.isBraces(part)) {
                output.add('{');
                part(parts.first(part), WHOLE_PRIORITY, level + 1);
                output.add('}');
            } else {
                name(part);
                arguments(part, level);
            }
        }

        /** The slot of the operator by which a part is written, or NONE. */
        private int slotOf(int part) {
            if (parts.kind(part) != Parts.COMPOUND) {
                return NONE;
            }
            int arity = parts.arity(part);
            long key = parts.key(part);
            int prefix = operators.prefix(key);
            if (arity == 1 && prefix != NONE) {
                return prefix;
            }
            int behind = operators.behind(key);
            boolean fits = arity == 1 && operators.isPostfix(behind) || arity == 2 && operators.isInfix(behind);
            return fits ? behind : NONE;
        }

        private void bracketed(int part, int slot, int most, int level) {
            boolean brackets = operators.priority(slot) > most;
            if (brackets) {
                output.add('(');
            }
            operated(part, slot, level);
            if (brackets) {
                output.add(')');
            }
        }

        private void operated(int part, int slot, int level) {
            int first = parts.first(part);
            if (operators.isPrefix(slot)) {
                name(part);
                output.add(' ');
                operand(first, operators.rightMost(slot), level + 1);
                return;
            }
            operand(first, leftMost(first, slot), level + 1);
            if (operators.isPostfix(slot)) {
                output.add(' ');
                name(part);
                return;
            }
            infixName(part);
            operand(parts.second(part), operators.rightMost(slot), level + 1);
        }

        private void infixName(int part) {
            if (parts.key(part) == COMMA) {
                output.add(',');
                return;
            }
            output.add(' ');
            name(part);
            output.add(' ');
        }

        /** An operator that is open behind would take the name behind its argument, of the same priority, into it. */
        private int leftMost(int left, int slot) {
            return operators.isOpenBehind(slotOf(left)) ? operators.priority(slot) - 1 : operators.leftMost(slot);
        }

        private void operand(int part, int most, int level) {
            boolean brackets = parts.kind(part) == Parts.ATOM && operators.isOperator(parts.key(part));
            if (brackets) {
                output.add('(');
            }
            part(part, most, level);
            if (brackets) {
                output.add(')');
            }
        }

        private void list(int part, int level) {
            output.add('[');
            part(parts.first(part), ARGUMENT_PRIORITY, level + 1);
            int tail = parts.second(part);
            int deep = level + 1;
            for (int i = 0; i < DEPTH_MOST && parts.isList(tail); i++) {
                deep++;
                output.add(',');
                part(parts.first(tail), ARGUMENT_PRIORITY, deep);
                tail = parts.second(tail);
            }
            if (!parts.isNil(tail)) {
                output.add('|');
                part(tail, ARGUMENT_PRIORITY, deep);
            }
            output.add(']');
        }

        private void arguments(int part, int level) {
            int argument = parts.first(part);
            for (int i = 0; i < ARGUMENTS_MOST && argument != NONE; i++) {
                output.add(i == 0 ? '(' : ',');
                part(argument, ARGUMENT_PRIORITY, level + 1);
                argument = parts.next(argument);
            }
            output.add(')');
        }

        private void integer(int value) {
            long left = value;
            if (left < 0L) {
                output.add('-');
                left = -left;
            }
            long unit = 1L;
            for (int i = 0; i < 10 && unit * 10L <= left; i++) {
                unit *= 10L;
            }
            for (int i = 0; i < 11 && unit > 0L; i++) {
                output.add('0' + (int) (left / unit % 10L));
                unit /= 10L;
            }
        }

        private void name(int part) {
            int start = parts.value(part);
            int size = parts.nameSize(part);
            boolean quotes = !isPlain(start, size);
            if (quotes) {
                output.add('\'');
            }
            for (int i = 0; i < size; i++) {
                int c = names.at(start + i);
                int escape = quotes ? escapeOf(c) : NONE;
                if (escape != NONE) {
                    output.add('\\');
                }
                output.add(escape != NONE ? escape : c);
            }
            if (quotes) {
                output.add('\'');
            }
        }

        /** What stands behind a \ for a character in quotes; NONE if it stands for itself. */
        private static int escapeOf(int c) {
            switch (c) {
                case '\n':
                    return 'n';
                case '\t':
                    return 't';
                case '\\': case '\'':
                    return c;
                default:
                    return NONE;
            }
        }

        /** Whether a name can do without quotes. */
        private boolean isPlain(int start, int size) {
            int first = size > 0 ? names.at(start) : NONE;
            int second = size > 1 ? names.at(start + 1) : NONE;
            if (size == 1 && (first == '!' || first == ';')) {
                return true;
            }
            if (size == 2 && (first == '[' && second == ']' || first == '{' && second == '}')) {
                return true;
            }
            if (Chars.isSmall(first)) {
                return isRow(start, size, false);
            }
            boolean readsOtherwise = size == 1 && first == '.' || first == '/' && second == '*';
            return size > 0 && !readsOtherwise && isRow(start, size, true);
        }

        /** Whether it is a row of signs, or else of letters, digits and _. */
        private boolean isRow(int start, int size, boolean signs) {
            for (int i = 0; i < size; i++) {
                int c = names.at(start + i);
                if (signs ? !Chars.isSign(c) : !Chars.isWord(c)) {
                    return false;
                }
            }
            return true;
        }
    }
}
