import java.util.Arrays;

/**
 * Reads and runs programs of a small language of free objects. The text is compiled once, to a flat
 * row of instructions, and run by a loop over them, so that a program's own nesting and calls never
 * nest calls of Java.
 */
public final class ShapeEngine {
    public static final int NONE = -1, BAD = -2, STATE = -3, FULL = -4;

    private static final int TAPE_BYTES = 1500;
    private static final int MOST_LIMIT = 20000;
    private static final int WORD_BYTES = 8;
    private static final int MOST_FNS = 8, MOST_NAMES = 4, MOST_VARIABLES = 12, MOST_OPEN = 8;
    private static final int MOST_SITES = 80, MOST_ENTRIES = 4;
    private static final int MOST_OBJECTS = 200, MOST_SHAPED = 8;
    private static final int MOST_ROWS = 60, MOST_ITEMS = 50;
    private static final int MOST_DEPTH = 12;
    private static final int MOST_PAPER = 200;

    /** The sorts of values, numbered as paper() tells them. */
    private static final int NOTHING = 0, WHOLE = 1, WIDE = 2, OBJECT = 3, ROW = 4;
    private static final long LEAST_WHOLE = -1073741824L, GREATEST_WHOLE = 1073741823L;

    /** The kinds of sites, numbered as site() tells them. */
    private static final int SITE_READ = 0, SITE_PUT = 1, SITE_STRIKE = 2, SITE_SUM = 3;

    /** The instructions. */
    private static final int STEP = 0, PUSH = 1, PUSH_NOTHING = 2, LOAD = 3, STORE = 4, DROP = 5;
    private static final int NEGATE = 6, ADD = 7, SUBTRACT = 8, MULTIPLY = 9, LESS = 10, SAME = 11;
    private static final int NEW_OBJECT = 12, GET_MEMBER = 13, PUT_MEMBER = 14, STRIKE_MEMBER = 15;
    private static final int NEW_ROW = 16, GET_ITEM = 17, PUT_ITEM = 18, SIZE = 19;
    private static final int CALL = 20, RETURN = 21, PRINT = 22, JUMP = 23, JUMP_IF_ZERO = 24, HALT = 25;

    private final byte[] tape = new byte[TAPE_BYTES];
    private int taped;
    private final Compiler compiler = new Compiler();
    private final Machine machine = new Machine();
    private Program text = new Program();
    /** Where the next read() writes to, so that a text with a fault leaves the one before it whole. */
    private Program spare = new Program();
    private boolean hasText;

    public ShapeEngine() {
        machine.load(text);
    }

    public int feed(int n, long bytes) {
        if (n < 1 || n > 8) return BAD;
        if (taped + n > TAPE_BYTES) return FULL;
        for (int i = 0; i < n; i++) tape[taped + i] = (byte) (bytes >>> (8 * i));
        taped += n;
        return taped;
    }

    public int read() {
        compiler.compile(tape, taped, spare);
        taped = 0;
        if (compiler.faultKind != 0) return -10 - compiler.faultKind;
        Program before = text;
        text = spare;
        spare = before;
        hasText = true;
        machine.load(text);
        return text.sites;
    }

    public int fault(int what) {
        if (what == 0) return compiler.faultKind;
        return what == 1 ? compiler.faultPlace : BAD;
    }

    public int run(int limit) {
        if (limit < 1 || limit > MOST_LIMIT) return BAD;
        if (!hasText) return STATE;
        machine.load(text);
        return machine.execute(limit);
    }

    public int told(int what) {
        if (what < 0 || what > 15) return BAD;
        return what < 8 ? machine.tellOfRun(what) : machine.tellOfCaches(what);
    }

    public int paper(int i, int what) {
        if (what < 0 || what > 1) return BAD;
        if (i < 0 || i >= machine.keptOnPaper()) return NONE;
        return what == 0 ? machine.sheet.sortAt(i) : machine.sheet.referenceAt(i);
    }

    public long printed(int i) {
        if (i < 0 || i >= machine.keptOnPaper()) return 0;
        return machine.sheet.worthAt(i);
    }

    public int object(int o, int what) {
        Heap heap = machine.heap;
        if (!heap.isObject(o)) return BAD;
        switch (what) {
            case 0: return heap.forms[o];
            case 1: return heap.parents[o];
            case 2: return heap.sizes[o];
            default: return BAD;
        }
    }

    public int member(int o, int i, int what) {
        Heap heap = machine.heap;
        if (!heap.isObject(o) || what < 0 || what > 1) return BAD;
        int cell = heap.cellAt(o, i);
        if (cell == NONE) return NONE;
        return what == 0 ? heap.values.sortAt(cell) : heap.values.referenceAt(cell);
    }

    public long worth(int o, int i) {
        int cell = machine.heap.cellAt(o, i);
        return cell == NONE ? 0 : machine.heap.values.worthAt(cell);
    }

    public int letter(int o, int i, int k) {
        int cell = machine.heap.cellAt(o, i);
        if (cell == NONE || k < 0 || k >= WORD_BYTES) return 0;
        return (int) (machine.heap.names[cell] >>> (8 * k)) & 255;
    }

    public int row(int r, int what) {
        Rows rows = machine.rows;
        if (!rows.isRow(r) || what < 0) return BAD;
        if (what == 0) return rows.kinds[r];
        if (what == 1) return rows.sizes[r];
        int place = rows.placeOf(r, what - 2);
        return place == NONE ? NONE : rows.items.sortAt(place);
    }

    public long item(int r, int i) {
        Rows rows = machine.rows;
        int place = rows.placeOf(r, i);
        return place == NONE ? 0 : rows.items.worthAt(place);
    }

    public int shape(int s, int what) {
        Shapes shapes = machine.heap.shapes;
        if (!shapes.isShape(s)) return BAD;
        switch (what) {
            case 0: return shapes.parents[s];
            case 1: return shapes.lengths[s];
            case 2: return shapes.shorter[s];
            case 3: return shapes.longer[s];
            default: return BAD;
        }
    }

    public int site(int s, int what) {
        if (!text.isSite(s) || what < 0) return BAD;
        Sites sites = machine.sites;
        switch (what) {
            case 0: return text.siteKinds[s];
            case 1: return text.sitePlaces[s];
            case 2: return sites.ran[s];
            case 3: return sites.hits[s];
            case 4: return text.siteKinds[s] == SITE_SUM ? sites.gave[s] : sites.sizes[s];
            case 5: return sites.many[s];
            case 6: return text.siteFns[s];
            case 7: return sites.hasGuess(s) ? 1 : 0;
            default: return sites.entryAt(s, what - 8);
        }
    }

    public int fn(int f, int what) {
        if (!text.isFn(f)) return BAD;
        Functions functions = machine.functions;
        switch (what) {
            case 0: return text.fnTakes[f];
            case 1: return functions.calls[f];
            case 2: return functions.counts[f];
            case 3: return functions.made[f];
            case 4: return functions.mades[f];
            case 5: return functions.lefts[f];
            case 6: return functions.isCold(f) ? 1 : 0;
            case 7: return functions.leftAt[f];
            default: return BAD;
        }
    }

    public int count(int what) {
        switch (what) {
            case 0: return text.bytes;
            case 1: return text.fns;
            case 2: return text.sites;
            case 3: return text.mainVariables;
            case 4: return taped;
            default: return BAD;
        }
    }

    /** Cuts a text into tokens and stands at one of them. A sign's kind is its own byte. */
    private static final class Lexer {
        static final int END = 256, BROKEN = 257, NUMBER = 258, NAME = 259, EQUAL = 260;
        static final int KEY_FN = 300, KEY_LET = 301, KEY_IF = 302, KEY_ELSE = 303, KEY_WHILE = 304;
        static final int KEY_PRINT = 305, KEY_RETURN = 306, KEY_DEL = 307, KEY_NEW = 308;
        static final int KEY_ROW = 309, KEY_SIZE = 310, KEY_NONE = 311;
        private static final String SIGNS = "(){}[];,.=<+-*";
        private static final int MOST_DIGITS = 9, GREATEST_NUMBER = 536870911;
        private static final int MOST_TOKENS = TAPE_BYTES + 1;

        /** The keys' packed words, in the order of their kinds. */
        private final long[] keys = {
            packed("fn"), packed("let"), packed("if"), packed("else"), packed("while"), packed("print"),
            packed("return"), packed("del"), packed("new"), packed("row"), packed("size"), packed("none")
        };
        private final short[] kinds = new short[MOST_TOKENS];
        private final short[] places = new short[MOST_TOKENS];
        private final long[] values = new long[MOST_TOKENS];
        private int tokens;
        private int current;
        int kind = END;
        int place;
        /** A number's worth, or a word's bytes with the first one lowest: a word of 8 bytes just fits. */
        long value;

        void begin(byte[] bytes, int size) {
            tokens = 0;
            int at = 0;
            for (int i = 0; i < TAPE_BYTES && at < size; i++) {
                if (bytes[at] == 32 || bytes[at] == 10) at++;
                else if (isLetter(bytes[at])) at = takeWord(bytes, size, at);
                else if (isDigit(bytes[at])) at = takeNumber(bytes, size, at);
                else at = takeSign(bytes, size, at);
            }
            add(END, size, 0);
            current = -1;
            advance();
        }

        void advance() {
            if (current + 1 >= tokens) return;
            current++;
            kind = kinds[current];
            place = places[current];
            value = values[current];
        }

        private void add(int newKind, int newPlace, long newValue) {
            if (tokens >= MOST_TOKENS) return;
            kinds[tokens] = (short) newKind;
            places[tokens] = (short) newPlace;
            values[tokens] = newValue;
            tokens++;
        }

        private int takeWord(byte[] bytes, int size, int from) {
            int at = from;
            long word = 0;
            for (; at < size && (isLetter(bytes[at]) || isDigit(bytes[at])); at++) {
                if (at - from < WORD_BYTES) word |= (long) bytes[at] << (8 * (at - from));
            }
            add(at - from > WORD_BYTES ? BROKEN : kindOf(word), from, word);
            return at;
        }

        private int kindOf(long word) {
            for (int i = 0; i < keys.length; i++) {
                if (keys[i] == word) return KEY_FN + i;
            }
            return NAME;
        }

        private int takeNumber(byte[] bytes, int size, int from) {
            int at = from;
            long value = 0;
            for (; at < size && isDigit(bytes[at]); at++) {
                if (at - from < MOST_DIGITS) value = value * 10 + (bytes[at] - '0');
            }
            boolean fits = at - from <= MOST_DIGITS && value <= GREATEST_NUMBER;
            add(fits ? NUMBER : BROKEN, from, value);
            return at;
        }

        private int takeSign(byte[] bytes, int size, int from) {
            char sign = (char) (bytes[from] & 255);
            if (sign == '=' && from + 1 < size && bytes[from + 1] == '=') {
                add(EQUAL, from, 0);
                return from + 2;
            }
            add(SIGNS.indexOf(sign) < 0 ? BROKEN : sign, from, 0);
            return from + 1;
        }

        private static boolean isLetter(byte b) {
            return b >= 'a' && b <= 'z';
        }

        private static boolean isDigit(byte b) {
            return b >= '0' && b <= '9';
        }

        private static long packed(String letters) {
            long all = 0;
            for (int i = 0; i < letters.length(); i++) all |= (long) letters.charAt(i) << (8 * i);
            return all;
        }
    }

    /** A text as it is run: instructions, and the tables of its sites and fns. */
    private static final class Program {
        /** The densest text is steps like 1; with three instructions for their two bytes. */
        static final int MOST_CODE = 2400;

        final byte[] ops = new byte[MOST_CODE];
        final int[] args = new int[MOST_CODE];
        final short[] places = new short[MOST_CODE];
        int length;
        final int[] siteKinds = new int[MOST_SITES];
        final int[] sitePlaces = new int[MOST_SITES];
        final int[] siteFns = new int[MOST_SITES];
        final long[] siteNames = new long[MOST_SITES];
        int sites;
        final long[] fnNames = new long[MOST_FNS];
        final int[] fnStarts = new int[MOST_FNS];
        final int[] fnTakes = new int[MOST_FNS];
        int fns;
        int mainStart;
        int mainVariables;
        int bytes;

        void begin(int size) {
            length = 0;
            sites = 0;
            fns = 0;
            mainStart = 0;
            mainVariables = 0;
            bytes = size;
        }

        int emit(int op, int arg, int place) {
            if (length >= MOST_CODE) return MOST_CODE - 1;
            ops[length] = (byte) op;
            args[length] = arg;
            places[length] = (short) place;
            return length++;
        }

        /** The argument of the latest instruction, which is taken back. */
        int takeBack() {
            if (length == 0) return 0;
            length--;
            return args[length];
        }

        void aim(int jump) {
            if (jump >= 0 && jump < length) args[jump] = length;
        }

        /** The place of the instruction that was taken back last. */
        int placeTakenBack() {
            return length < MOST_CODE ? places[length] : 0;
        }

        boolean isSite(int s) {
            return s >= 0 && s < sites;
        }

        void turnSite(int s, int kind) {
            if (isSite(s)) siteKinds[s] = kind;
        }

        boolean isFn(int f) {
            return f >= 0 && f < fns;
        }

        void addName(int f) {
            if (isFn(f)) fnTakes[f]++;
        }

        int addSite(int kind, int place, int fn, long name) {
            if (sites >= MOST_SITES) return NONE;
            siteKinds[sites] = kind;
            sitePlaces[sites] = place;
            siteFns[sites] = fn;
            siteNames[sites] = name;
            return sites++;
        }

        int addFn(long name) {
            if (fns >= MOST_FNS) return NONE;
            fnNames[fns] = name;
            fnStarts[fns] = length;
            fnTakes[fns] = 0;
            return fns++;
        }

        int fnNamed(long name) {
            for (int f = 0; f < fns; f++) {
                if (fnNames[f] == name) return f;
            }
            return NONE;
        }
    }

    /** Reads a text by its grammar, writes the program of it and finds its fault. */
    private static final class Compiler {
        /** What an E is, as far as = and del ask for it. */
        private static final int PLAIN = 0, VARIABLE = 1, MEMBER = 2, ITEM = 3;
        /** The levels of an E, from the one that binds least. */
        private static final int COMPARED = 0, SUMMED = 1, MULTIPLIED = 2, POSTFIXED = 3;
        private static final int MOST_CALLS = TAPE_BYTES / 3;

        private final Lexer lexer = new Lexer();
        private Program program;
        private boolean refused;
        int faultKind;
        int faultPlace = NONE;
        private int open;
        private int scope;
        private final long[] variables = new long[MOST_VARIABLES];
        private int known;
        /** A call may be of a fn behind it: calls are looked at when all fns are known. */
        private final long[] callNames = new long[MOST_CALLS];
        private final int[] callCounts = new int[MOST_CALLS];
        private final int[] callCodes = new int[MOST_CALLS];
        private int calls;

        void compile(byte[] bytes, int size, Program into) {
            begin(size, into);
            lexer.begin(bytes, size);
            for (int f = 0; f <= MOST_FNS && lexer.kind == Lexer.KEY_FN; f++) {
                compileHead();
                compileBlock();
                program.emit(PUSH_NOTHING, 0, 0);
                program.emit(RETURN, 0, 0);
            }
            scope = NONE;
            known = 0;
            program.mainStart = program.length;
            for (int i = 0; i < TAPE_BYTES && lexer.kind != Lexer.END; i++) compileStep();
            program.emit(HALT, 0, 0);
            program.mainVariables = known;
            if (!refused) settleCalls();
        }

        private void begin(int size, Program into) {
            program = into;
            program.begin(size);
            refused = false;
            faultKind = 0;
            faultPlace = NONE;
            open = 0;
            calls = 0;
        }

        /** A fn up to its block. */
        private void compileHead() {
            if (program.fns == MOST_FNS) {
                refuse();
                return;
            }
            lexer.advance();
            if (lexer.kind != Lexer.NAME) {
                refuse();
                return;
            }
            if (program.fnNamed(lexer.value) != NONE) note(2, lexer.place);
            scope = program.addFn(lexer.value);
            known = 0;
            lexer.advance();
            compileNames();
        }

        private void compileNames() {
            opens('(');
            boolean more = lexer.kind != ')';
            for (int n = 0; n <= MOST_NAMES && more; n++) {
                if (n == MOST_NAMES || lexer.kind != Lexer.NAME) {
                    refuse();
                    return;
                }
                if (variableNamed(lexer.value) != NONE) note(3, lexer.place);
                addVariable(lexer.value, lexer.place);
                program.addName(scope);
                lexer.advance();
                more = takes(',');
            }
            closes(')');
        }

        private void compileBlock() {
            opens('{');
            for (int i = 0; i < TAPE_BYTES && lexer.kind != '}' && lexer.kind != Lexer.END; i++) compileStep();
            closes('}');
        }

        private void compileStep() {
            program.emit(STEP, 0, lexer.place);
            switch (lexer.kind) {
                case Lexer.KEY_LET: compileLet(); break;
                case Lexer.KEY_IF: compileIf(); break;
                case Lexer.KEY_WHILE: compileWhile(); break;
                case Lexer.KEY_PRINT: compilePlain(PRINT); break;
                case Lexer.KEY_RETURN: compilePlain(RETURN); break;
                case Lexer.KEY_DEL: compileDel(); break;
                default: compilePut(); break;
            }
        }

        private void compileLet() {
            lexer.advance();
            long name = lexer.value;
            int place = lexer.place;
            expect(Lexer.NAME);
            expect('=');
            compileE(COMPARED);
            int slot = variableNamed(name);
            if (slot == NONE) slot = addVariable(name, place);
            program.emit(STORE, slot, place);
            expect(';');
        }

        private void compileIf() {
            int place = lexer.place;
            lexer.advance();
            compileE(COMPARED);
            int past = program.emit(JUMP_IF_ZERO, 0, place);
            compileBlock();
            if (takes(Lexer.KEY_ELSE)) {
                int end = program.emit(JUMP, 0, place);
                program.aim(past);
                compileBlock();
                program.aim(end);
            } else {
                program.aim(past);
            }
        }

        private void compileWhile() {
            int place = lexer.place;
            // The loop goes back to the step itself: each asking of its E is a step.
            int start = program.length - 1;
            lexer.advance();
            compileE(COMPARED);
            int past = program.emit(JUMP_IF_ZERO, 0, place);
            compileBlock();
            program.emit(JUMP, start, place);
            program.aim(past);
        }

        private void compilePlain(int op) {
            lexer.advance();
            compileE(COMPARED);
            program.emit(op, 0, 0);
            expect(';');
        }

        private void compileDel() {
            lexer.advance();
            int form = compileE(COMPARED);
            if (form != MEMBER) {
                refuse();
                return;
            }
            int struck = program.takeBack();
            program.turnSite(struck, SITE_STRIKE);
            program.emit(STRIKE_MEMBER, struck, program.placeTakenBack());
            expect(';');
        }

        private void compilePut() {
            int form = compileE(COMPARED);
            if (lexer.kind != '=') {
                program.emit(DROP, 0, 0);
                expect(';');
                return;
            }
            if (form == PLAIN) {
                refuse();
                return;
            }
            // The place's own reading is taken back: its parts stay on the stack till the put.
            int arg = program.takeBack();
            int place = program.placeTakenBack();
            lexer.advance();
            if (form == MEMBER) program.turnSite(arg, SITE_PUT);
            compileE(COMPARED);
            if (form == VARIABLE) program.emit(STORE, arg, place);
            else program.emit(form == MEMBER ? PUT_MEMBER : PUT_ITEM, arg, place);
            expect(';');
        }

        /** An E, a SUM, a TERM or a POST, by its level: what it is. */
        private int compileE(int level) {
            if (level >= POSTFIXED) return compilePost();
            int form = compileE(level + 1);
            for (int i = 0; i < TAPE_BYTES && bindsAt(level); i++) {
                compileRest(level);
                form = PLAIN;
                if (level == COMPARED) break;
            }
            return form;
        }

        private boolean bindsAt(int level) {
            int kind = lexer.kind;
            if (level == COMPARED) return kind == '<' || kind == Lexer.EQUAL;
            if (level == SUMMED) return kind == '+' || kind == '-';
            return kind == '*';
        }

        private void compileRest(int level) {
            int sign = lexer.kind;
            int place = lexer.place;
            // Sites are numbered by place: the sign's comes ahead of those in what follows it.
            int arg = level == COMPARED ? 0 : addSite(SITE_SUM, place, 0);
            lexer.advance();
            compileE(level + 1);
            program.emit(opOf(sign), arg, place);
        }

        private static int opOf(int sign) {
            switch (sign) {
                case '+': return ADD;
                case '-': return SUBTRACT;
                case '*': return MULTIPLY;
                case '<': return LESS;
                default: return SAME;
            }
        }

        private int compilePost() {
            int form = compileOne();
            for (int i = 0; i < TAPE_BYTES && (lexer.kind == '.' || lexer.kind == '['); i++) {
                form = lexer.kind == '.' ? compileMember() : compileItem();
            }
            return form;
        }

        private int compileMember() {
            int place = lexer.place;
            lexer.advance();
            program.emit(GET_MEMBER, addSite(SITE_READ, place, lexer.value), place);
            expect(Lexer.NAME);
            return MEMBER;
        }

        private int compileItem() {
            int place = lexer.place;
            opens('[');
            compileE(COMPARED);
            closes(']');
            program.emit(GET_ITEM, 0, place);
            return ITEM;
        }

        private int compileOne() {
            switch (lexer.kind) {
                case Lexer.NUMBER:
                    program.emit(PUSH, (int) lexer.value, lexer.place);
                    lexer.advance();
                    break;
                case Lexer.KEY_NONE:
                    program.emit(PUSH_NOTHING, 0, lexer.place);
                    lexer.advance();
                    break;
                case Lexer.NAME: return compileNamed();
                case Lexer.KEY_NEW: compileMade(NEW_OBJECT); break;
                case Lexer.KEY_ROW: compileMade(NEW_ROW); break;
                case Lexer.KEY_SIZE: compileMade(SIZE); break;
                case '-': compileNegated(); break;
                case '(':
                    opens('(');
                    compileE(COMPARED);
                    closes(')');
                    break;
                default: refuse(); break;
            }
            return PLAIN;
        }

        private void compileNegated() {
            int place = lexer.place;
            opens('-');
            compileOne();
            open--;
            program.emit(NEGATE, 0, place);
        }

        private void compileMade(int op) {
            int place = lexer.place;
            lexer.advance();
            opens('(');
            if (op == NEW_OBJECT && lexer.kind == ')') program.emit(PUSH_NOTHING, 0, place);
            else compileE(COMPARED);
            closes(')');
            program.emit(op, 0, place);
        }

        private int compileNamed() {
            long name = lexer.value;
            int place = lexer.place;
            lexer.advance();
            if (lexer.kind == '(') {
                int count = compileArguments();
                keepCall(name, count, program.emit(CALL, 0, place));
                return PLAIN;
            }
            int slot = variableNamed(name);
            if (slot == NONE) note(2, place);
            program.emit(LOAD, Math.max(0, slot), place);
            return VARIABLE;
        }

        private int compileArguments() {
            int count = 0;
            opens('(');
            boolean more = lexer.kind != ')';
            for (; count <= MOST_NAMES && more; count++) {
                if (count == MOST_NAMES) {
                    refuse();
                    return count;
                }
                compileE(COMPARED);
                more = takes(',');
            }
            closes(')');
            return count;
        }

        private void keepCall(long name, int count, int code) {
            if (calls >= MOST_CALLS) return;
            callNames[calls] = name;
            callCounts[calls] = count;
            callCodes[calls] = code;
            calls++;
        }

        private void settleCalls() {
            for (int c = 0; c < calls; c++) {
                int f = program.fnNamed(callNames[c]);
                int place = program.places[callCodes[c]];
                if (f == NONE) note(2, place);
                else if (program.fnTakes[f] != callCounts[c]) note(3, place);
                else program.args[callCodes[c]] = f;
            }
        }

        private int variableNamed(long name) {
            for (int v = 0; v < known; v++) {
                if (variables[v] == name) return v;
            }
            return NONE;
        }

        private int addVariable(long name, int place) {
            if (known >= MOST_VARIABLES) {
                note(3, place);
                return 0;
            }
            variables[known] = name;
            return known++;
        }

        private int addSite(int kind, int place, long name) {
            int added = program.addSite(kind, place, scope, name);
            if (added == NONE) note(3, place);
            return Math.max(0, added);
        }

        private boolean takes(int kind) {
            if (lexer.kind != kind) return false;
            lexer.advance();
            return true;
        }

        private void expect(int kind) {
            if (lexer.kind == kind) lexer.advance();
            else refuse();
        }

        private void opens(int kind) {
            if (lexer.kind != kind || open >= MOST_OPEN) {
                refuse();
                return;
            }
            open++;
            lexer.advance();
        }

        private void closes(int kind) {
            if (lexer.kind == kind) lexer.advance();
            else refuse();
            open--;
        }

        /** A fault of kind 1 at the token that is here; it goes ahead of all other kinds. */
        private void refuse() {
            if (!refused) {
                refused = true;
                faultKind = 1;
                faultPlace = lexer.place;
            }
            // No rule takes the end, so nothing more of a refused text is taken.
            lexer.kind = Lexer.END;
        }

        /** A fault of kind 2 or 3: the one with the least place is kept, of one place the lowest kind. */
        private void note(int kind, int place) {
            if (refused) return;
            boolean first = faultKind == 0 || place < faultPlace;
            if (first || place == faultPlace && kind < faultKind) {
                faultKind = kind;
                faultPlace = place;
            }
        }
    }

    /** A row of values, each a sort and a number, that grows to a bound as it is used. */
    private static final class Values {
        private final int most;
        private byte[] sorts;
        private long[] numbers;

        Values(int first, int most) {
            this.most = Math.max(first, most);
            sorts = new byte[first];
            numbers = new long[first];
        }

        void set(int i, int sort, long number) {
            if (i < 0 || i >= most) return;
            if (i >= sorts.length) grow(i);
            sorts[i] = (byte) sort;
            numbers[i] = number;
        }

        private void grow(int i) {
            int length = Math.min(most, Math.max(i + 1, 2 * sorts.length));
            sorts = Arrays.copyOf(sorts, length);
            numbers = Arrays.copyOf(numbers, length);
        }

        int sortAt(int i) {
            return i < 0 || i >= sorts.length ? NOTHING : sorts[i];
        }

        /** The long of a number, the number of an object or a row. */
        long numberAt(int i) {
            return i < 0 || i >= numbers.length ? 0 : numbers[i];
        }

        boolean isNumberAt(int i) {
            int sort = sortAt(i);
            return sort == WHOLE || sort == WIDE;
        }

        long worthAt(int i) {
            return isNumberAt(i) ? numberAt(i) : 0;
        }

        int referenceAt(int i) {
            return isNumberAt(i) ? 0 : (int) numberAt(i);
        }
    }

    /** The shapes, a tree of names under each parent. */
    private static final class Shapes {
        private static final int MOST_SHAPES = MOST_OBJECTS * (MOST_SHAPED + 1);

        private final int[] roots = new int[MOST_OBJECTS + 1];
        int[] parents = new int[32];
        int[] lengths = new int[32];
        int[] shorter = new int[32];
        int[] longer = new int[32];
        private long[] names = new long[32];
        private int[] firstLonger = new int[32];
        private int[] nextSibling = new int[32];
        int made;

        void clear() {
            Arrays.fill(roots, NONE);
            made = 0;
        }

        boolean isShape(int s) {
            return s >= 0 && s < made;
        }

        boolean isParent(int object) {
            return object >= 0 && object < MOST_OBJECTS && roots[object + 1] != NONE;
        }

        /** The parent of a shape; NONE without one. */
        int parentOf(int s) {
            return isShape(s) ? parents[s] : NONE;
        }

        /** The shape without names of a parent, or of none. */
        int rootOf(int parent) {
            if (parent < NONE || parent >= MOST_OBJECTS) return NONE;
            if (roots[parent + 1] == NONE) roots[parent + 1] = add(parent, NONE, 0);
            return roots[parent + 1];
        }

        int with(int shape, long name) {
            if (!isShape(shape)) return NONE;
            int next = firstLonger[shape];
            for (int i = 0; i < longer[shape] && next != NONE; i++) {
                if (names[next] == name) return next;
                next = nextSibling[next];
            }
            int added = add(parents[shape], shape, name);
            nextSibling[added] = firstLonger[shape];
            firstLonger[shape] = added;
            longer[shape]++;
            return added;
        }

        private int add(int parent, int from, long name) {
            if (made >= parents.length) grow();
            parents[made] = parent;
            lengths[made] = from == NONE ? 0 : lengths[from] + 1;
            shorter[made] = from;
            longer[made] = 0;
            names[made] = name;
            firstLonger[made] = NONE;
            nextSibling[made] = NONE;
            return made++;
        }

        private void grow() {
            int length = Math.max(made + 1, Math.min(MOST_SHAPES, 2 * parents.length));
            parents = Arrays.copyOf(parents, length);
            lengths = Arrays.copyOf(lengths, length);
            shorter = Arrays.copyOf(shorter, length);
            longer = Arrays.copyOf(longer, length);
            names = Arrays.copyOf(names, length);
            firstLonger = Arrays.copyOf(firstLonger, length);
            nextSibling = Arrays.copyOf(nextSibling, length);
        }
    }

    /** The objects and their members; the members of one are a chain of cells, in their order. */
    private static final class Heap {
        private static final int MOST_CELLS = MOST_OBJECTS * MOST_SITES;
        private static final int LINE_WORDS = (MOST_OBJECTS + 63) / 64;

        final Shapes shapes = new Shapes();
        final int[] forms = new int[MOST_OBJECTS];
        final int[] parents = new int[MOST_OBJECTS];
        final int[] sizes = new int[MOST_OBJECTS];
        private final int[] firsts = new int[MOST_OBJECTS];
        private final int[] lasts = new int[MOST_OBJECTS];
        /** Of each object a bit for itself and each one above it, so that asking who is above is quick. */
        private final long[] lines = new long[MOST_OBJECTS * LINE_WORDS];
        int made;
        int dictionaries;
        long[] names = new long[32];
        private int[] nexts = new int[32];
        final Values values = new Values(32, MOST_CELLS);
        private int used;
        private int free;

        void clear() {
            shapes.clear();
            made = 0;
            dictionaries = 0;
            used = 0;
            free = NONE;
        }

        boolean isObject(int o) {
            return o >= 0 && o < made;
        }

        /** A new object's number; NONE if there is no room. */
        int addObject(int parent) {
            if (made >= MOST_OBJECTS || parent >= made) return NONE;
            int o = made;
            made++;
            parents[o] = parent;
            forms[o] = shapes.rootOf(parent);
            sizes[o] = 0;
            firsts[o] = NONE;
            lasts[o] = NONE;
            for (int w = 0; w < LINE_WORDS; w++) {
                lines[o * LINE_WORDS + w] = parent < 0 ? 0 : lines[parent * LINE_WORDS + w];
            }
            lines[o * LINE_WORDS + o / 64] |= 1L << (o % 64);
            return o;
        }

        boolean isOnLine(int o, int above) {
            if (!isObject(o) || !isObject(above)) return false;
            return (lines[o * LINE_WORDS + above / 64] >>> (above % 64) & 1) != 0;
        }

        int find(int o, long name) {
            if (!isObject(o)) return NONE;
            int cell = firsts[o];
            for (int i = 0; i < sizes[o] && cell != NONE; i++) {
                if (names[cell] == name) return cell;
                cell = nexts[cell];
            }
            return NONE;
        }

        /** The object itself or the nearest one above it that has a member of the name; NONE without any. */
        int holderOf(int o, long name) {
            int at = o;
            for (int i = 0; i < MOST_OBJECTS && isObject(at); i++) {
                if (find(at, name) != NONE) return at;
                at = parents[at];
            }
            return NONE;
        }

        int cellAt(int o, int i) {
            if (!isObject(o) || i < 0 || i >= sizes[o]) return NONE;
            int cell = firsts[o];
            for (int n = 0; n < i && cell != NONE; n++) cell = nexts[cell];
            return cell;
        }

        void give(int o, long name, int sort, long number) {
            if (!isObject(o)) return;
            int cell = find(o, name);
            if (cell == NONE) {
                cell = append(o, name);
                if (sizes[o] > MOST_SHAPED) loseShape(o);
                else if (forms[o] != NONE) forms[o] = shapes.with(forms[o], name);
            }
            values.set(cell, sort, number);
        }

        private int append(int o, long name) {
            int cell = freshCell();
            names[cell] = name;
            nexts[cell] = NONE;
            if (lasts[o] == NONE) firsts[o] = cell;
            else nexts[lasts[o]] = cell;
            lasts[o] = cell;
            sizes[o]++;
            return cell;
        }

        private int freshCell() {
            if (free != NONE) {
                int cell = free;
                free = nexts[cell];
                return cell;
            }
            if (used >= names.length) {
                names = Arrays.copyOf(names, 2 * used);
                nexts = Arrays.copyOf(nexts, 2 * used);
            }
            return used++;
        }

        private void loseShape(int o) {
            if (forms[o] != NONE) dictionaries++;
            forms[o] = NONE;
        }

        /** Takes a member that is there out of its object's chain. */
        void strike(int o, long name) {
            if (!isObject(o)) return;
            int before = NONE;
            int cell = firsts[o];
            for (int i = 0; i < sizes[o] && cell != NONE && names[cell] != name; i++) {
                before = cell;
                cell = nexts[cell];
            }
            if (cell == NONE) return;
            if (before == NONE) firsts[o] = nexts[cell];
            else nexts[before] = nexts[cell];
            if (lasts[o] == cell) lasts[o] = before;
            nexts[cell] = free;
            free = cell;
            sizes[o]--;
            loseShape(o);
        }
    }

    /** The rows and their items. */
    private static final class Rows {
        private static final int BYTES = 0, WHOLES = 1, ANYTHING = 2;

        final int[] kinds = new int[MOST_ROWS];
        final int[] sizes = new int[MOST_ROWS];
        private final int[] starts = new int[MOST_ROWS];
        final Values items = new Values(64, MOST_ROWS * MOST_ITEMS);
        private int used;
        int made;
        int widened;

        void clear() {
            used = 0;
            made = 0;
            widened = 0;
        }

        boolean isRow(int r) {
            return r >= 0 && r < made;
        }

        /** A new row's number; NONE if there is no room. */
        int addRow(int size) {
            if (made >= MOST_ROWS) return NONE;
            kinds[made] = BYTES;
            sizes[made] = size;
            starts[made] = used;
            for (int i = 0; i < size; i++) items.set(used + i, WHOLE, 0);
            used += size;
            return made++;
        }

        /** Where an item is kept; NONE if there is none such. */
        int placeOf(int r, long i) {
            return !isRow(r) || i < 0 || i >= sizes[r] ? NONE : starts[r] + (int) i;
        }

        void putAt(int r, int place, int sort, long number) {
            if (!isRow(r)) return;
            int needed = neededFor(sort, number);
            if (needed > kinds[r]) {
                kinds[r] = needed;
                widened++;
            }
            items.set(place, sort, number);
        }

        private static int neededFor(int sort, long number) {
            if (sort != WHOLE) return ANYTHING;
            return number >= -128 && number <= 127 ? BYTES : WHOLES;
        }
    }

    /** What the sites keep, and the guesses that are taken of them. */
    private static final class Sites {
        /** The end of the way of an entry that has none: it stands above every object. */
        static final int NO_WAY = MOST_OBJECTS;

        final int[] ran = new int[MOST_SITES];
        final int[] hits = new int[MOST_SITES];
        final int[] sizes = new int[MOST_SITES];
        final int[] many = new int[MOST_SITES];
        /** Of a sum: the sorts that it gave; WHOLE and WIDE are bits of their own. */
        final int[] gave = new int[MOST_SITES];
        private final int[] entries = new int[MOST_SITES * MOST_ENTRIES];
        /** A parent is always made ahead of its children, so a way is told by the number that it ends at. */
        private final int[] wayEnds = new int[MOST_SITES * MOST_ENTRIES];
        private final int[] guesses = new int[MOST_SITES * MOST_ENTRIES];
        private final int[] guessSizes = new int[MOST_SITES];
        int readHits;
        int readMisses;
        int broken;

        void clear() {
            Arrays.fill(ran, 0);
            Arrays.fill(hits, 0);
            Arrays.fill(sizes, 0);
            Arrays.fill(many, 0);
            Arrays.fill(gave, 0);
            Arrays.fill(guessSizes, 0);
            readHits = 0;
            readMisses = 0;
            broken = 0;
        }

        void meetRead(int s, int shape, int wayEnd) {
            if (meets(s, shape, wayEnd)) readHits++;
            else readMisses++;
        }

        void meetPut(int s, int shape) {
            meets(s, shape, NO_WAY);
        }

        void meetStrike(int s) {
            ran[s]++;
        }

        void meetSum(int s, int sort) {
            ran[s]++;
            gave[s] |= sort;
        }

        /** Whether it is a hit; a shape that is not kept yet is kept behind it. */
        private boolean meets(int s, int shape, int wayEnd) {
            ran[s]++;
            if (shape == NONE) return false;
            for (int i = 0; i < sizes[s]; i++) {
                if (entries[s * MOST_ENTRIES + i] == shape) {
                    hits[s]++;
                    return true;
                }
            }
            if (many[s] == 0) enter(s, shape, wayEnd);
            return false;
        }

        private void enter(int s, int shape, int wayEnd) {
            if (sizes[s] >= MOST_ENTRIES) {
                many[s] = 1;
                sizes[s] = 0;
                return;
            }
            int at = s * MOST_ENTRIES + sizes[s];
            entries[at] = shape;
            wayEnds[at] = wayEnd;
            sizes[s]++;
        }

        int entryAt(int s, int i) {
            return i < 0 || i >= sizes[s] ? NONE : entries[s * MOST_ENTRIES + i];
        }

        /** Drops each entry whose way the object is of; asked ahead of any change to the object. */
        void breakWays(int o, Heap heap, int count) {
            // Every object of a way is a parent: of most objects nothing has to be looked at.
            if (!heap.shapes.isParent(o)) return;
            for (int s = 0; s < count; s++) {
                int kept = 0;
                int size = sizes[s];
                for (int at = s * MOST_ENTRIES; at < s * MOST_ENTRIES + size; at++) {
                    if (isOnWay(at, o, heap)) continue;
                    entries[s * MOST_ENTRIES + kept] = entries[at];
                    wayEnds[s * MOST_ENTRIES + kept] = wayEnds[at];
                    kept++;
                }
                sizes[s] = kept;
                broken += size - kept;
            }
        }

        private boolean isOnWay(int at, int o, Heap heap) {
            if (o < wayEnds[at]) return false;
            int parent = heap.shapes.parentOf(entries[at]);
            return parent != NONE && heap.isOnLine(parent, o);
        }

        boolean hasGuess(int s) {
            return guessSizes[s] > 0;
        }

        boolean guessed(int s, int shape) {
            for (int i = 0; i < guessSizes[s]; i++) {
                if (guesses[s * MOST_ENTRIES + i] == shape) return true;
            }
            return false;
        }

        void takeGuesses(Program program, int f) {
            for (int s = 0; s < program.sites; s++) {
                if (program.siteFns[s] != f) continue;
                if (program.siteKinds[s] == SITE_READ) guessShapes(s);
                else if (program.siteKinds[s] == SITE_SUM) guessSizes[s] = gave[s] == WHOLE ? 1 : 0;
            }
        }

        private void guessShapes(int s) {
            guessSizes[s] = sizes[s];
            for (int i = 0; i < sizes[s]; i++) guesses[s * MOST_ENTRIES + i] = entries[s * MOST_ENTRIES + i];
        }

        void dropGuesses(Program program, int f) {
            for (int s = 0; s < program.sites; s++) {
                if (program.siteFns[s] == f) guessSizes[s] = 0;
            }
        }
    }

    /** What the fns count, and whether they are made. */
    private static final class Functions {
        private static final int OFTEN = 4, LEFT_FOR_COLD = 3;

        final int[] calls = new int[MOST_FNS];
        final int[] counts = new int[MOST_FNS];
        final int[] made = new int[MOST_FNS];
        final int[] mades = new int[MOST_FNS];
        final int[] lefts = new int[MOST_FNS];
        final int[] leftAt = new int[MOST_FNS];
        int madeInAll;
        int leftInAll;

        void clear() {
            Arrays.fill(calls, 0);
            Arrays.fill(counts, 0);
            Arrays.fill(made, 0);
            Arrays.fill(mades, 0);
            Arrays.fill(lefts, 0);
            Arrays.fill(leftAt, NONE);
            madeInAll = 0;
            leftInAll = 0;
        }

        boolean isCold(int f) {
            return lefts[f] >= LEFT_FOR_COLD;
        }

        /** Counts a call: whether the fn is made by it. */
        boolean makes(int f) {
            calls[f]++;
            counts[f]++;
            if (counts[f] != OFTEN || made[f] != 0 || isCold(f)) return false;
            made[f] = 1;
            mades[f]++;
            madeInAll++;
            return true;
        }

        void leave(int f, int s) {
            made[f] = 0;
            counts[f] = 0;
            lefts[f]++;
            leftAt[f] = s;
            leftInAll++;
        }
    }

    /** Runs a program. */
    private static final class Machine {
        private static final int RUNNING = -1, ENDED = 0, FAILED = 1, SPENT = 2;
        private static final int NO_NUMBER = 1, NO_OBJECT = 2, NO_PLACE = 3, WRONG_SIZE = 4;
        private static final int TOO_DEEP = 5, NO_ROOM = 6;
        /** At each of 9 levels of nesting 3 operands and 3 arguments may wait, and 3 of a put. */
        private static final int MOST_WAITING = 60;

        final Heap heap = new Heap();
        final Rows rows = new Rows();
        final Sites sites = new Sites();
        final Functions functions = new Functions();
        final Values sheet = new Values(16, MOST_PAPER);
        private int printedInAll;
        private Program program;
        private final Values stack = new Values(64, MOST_WAITING * (MOST_DEPTH + 1));
        private int top;
        private final Values variables = new Values(MOST_VARIABLES * (MOST_DEPTH + 1), 0);
        private final int[] returns = new int[MOST_DEPTH];
        private int depth;
        private int deepest;
        private int pc;
        private int limit;
        private int steps;
        private int calls;
        private int ending;
        private int failure;
        private int failurePlace;

        /** Makes a program the one that runs next, with nothing having run. */
        void load(Program from) {
            program = from;
            heap.clear();
            rows.clear();
            sites.clear();
            functions.clear();
            printedInAll = 0;
            top = 0;
            depth = 0;
            deepest = 0;
            steps = 0;
            calls = 0;
            failure = 0;
            failurePlace = NONE;
        }

        int execute(int most) {
            limit = most;
            pc = program.mainStart;
            ending = RUNNING;
            clearVariables();
            // Between two steps no instruction comes twice in one call, so this is never short.
            long bound = (limit + 1L) * Program.MOST_CODE;
            for (long tick = 0; tick < bound && ending == RUNNING; tick++) perform();
            return ending;
        }

        private void perform() {
            if (pc < 0 || pc >= program.length) {
                ending = ENDED;
                return;
            }
            int op = program.ops[pc];
            int arg = program.args[pc];
            int place = program.places[pc];
            pc++;
            switch (op) {
                case STEP: takeStep(); break;
                case PUSH: push(WHOLE, arg); break;
                case PUSH_NOTHING: push(NOTHING, 0); break;
                case LOAD: fetch(depth * MOST_VARIABLES + arg); break;
                case STORE: store(depth * MOST_VARIABLES + arg); break;
                case DROP: top--; break;
                case NEGATE: negate(place); break;
                case ADD: case SUBTRACT: case MULTIPLY: calculate(op, arg, place); break;
                case LESS: compare(place); break;
                case SAME: equate(); break;
                case NEW_OBJECT: makeObject(place); break;
                case GET_MEMBER: getMember(arg, place); break;
                case PUT_MEMBER: putMember(arg, place); break;
                case STRIKE_MEMBER: strikeMember(arg, place); break;
                case NEW_ROW: makeRow(place); break;
                case GET_ITEM: getItem(place); break;
                case PUT_ITEM: putItem(place); break;
                case SIZE: measure(place); break;
                case CALL: enter(arg, place); break;
                case RETURN: leave(); break;
                case PRINT: print(); break;
                case JUMP: pc = arg; break;
                case JUMP_IF_ZERO: branch(arg, place); break;
                default: ending = ENDED; break;
            }
        }

        private void fail(int kind, int place) {
            failure = kind;
            failurePlace = place;
            ending = FAILED;
        }

        private boolean takeStep() {
            if (steps >= limit) {
                ending = SPENT;
                return false;
            }
            steps++;
            return true;
        }

        private void push(int sort, long number) {
            stack.set(top, sort, number);
            top++;
        }

        private void pushNumber(long number) {
            push(sortOf(number), number);
        }

        private static int sortOf(long number) {
            return number >= LEAST_WHOLE && number <= GREATEST_WHOLE ? WHOLE : WIDE;
        }

        private void fetch(int slot) {
            push(variables.sortAt(slot), variables.numberAt(slot));
        }

        private void store(int slot) {
            top--;
            variables.set(slot, stack.sortAt(top), stack.numberAt(top));
        }

        private void clearVariables() {
            for (int v = 0; v < MOST_VARIABLES; v++) variables.set(depth * MOST_VARIABLES + v, NOTHING, 0);
        }

        private void negate(int place) {
            top--;
            if (stack.isNumberAt(top)) pushNumber(-stack.numberAt(top));
            else fail(NO_NUMBER, place);
        }

        private void calculate(int op, int s, int place) {
            top -= 2;
            if (!stack.isNumberAt(top) || !stack.isNumberAt(top + 1) || !program.isSite(s)) {
                fail(NO_NUMBER, place);
                return;
            }
            long result = resultOf(op, stack.numberAt(top), stack.numberAt(top + 1));
            int sort = sortOf(result);
            push(sort, result);
            sites.meetSum(s, sort);
            if (sort == WIDE && sites.hasGuess(s)) leaveMade(s);
        }

        private static long resultOf(int op, long left, long right) {
            if (op == ADD) return left + right;
            return op == SUBTRACT ? left - right : left * right;
        }

        private void compare(int place) {
            top -= 2;
            if (!stack.isNumberAt(top) || !stack.isNumberAt(top + 1)) fail(NO_NUMBER, place);
            else push(WHOLE, stack.numberAt(top) < stack.numberAt(top + 1) ? 1 : 0);
        }

        private void equate() {
            top -= 2;
            boolean same = stack.sortAt(top) == stack.sortAt(top + 1)
                && stack.numberAt(top) == stack.numberAt(top + 1);
            push(WHOLE, same ? 1 : 0);
        }

        private void makeObject(int place) {
            top--;
            int sort = stack.sortAt(top);
            if (sort != OBJECT && sort != NOTHING) {
                fail(NO_OBJECT, place);
                return;
            }
            int made = heap.addObject(sort == OBJECT ? (int) stack.numberAt(top) : NONE);
            if (made == NONE) fail(NO_ROOM, place);
            else push(OBJECT, made);
        }

        /** The object at a place of the stack; NONE: it failed, for there is none. */
        private int objectAt(int i, int place) {
            int o = stack.sortAt(i) == OBJECT ? (int) stack.numberAt(i) : NONE;
            if (heap.isObject(o)) return o;
            fail(NO_OBJECT, place);
            return NONE;
        }

        private void getMember(int s, int place) {
            top--;
            int o = objectAt(top, place);
            if (o == NONE || !program.isSite(s)) return;
            long name = program.siteNames[s];
            int holder = heap.holderOf(o, name);
            int shape = heap.forms[o];
            sites.meetRead(s, shape, holder == o ? Sites.NO_WAY : Math.max(0, holder));
            if (sites.hasGuess(s) && !sites.guessed(s, shape)) leaveMade(s);
            int cell = holder == NONE ? NONE : heap.find(holder, name);
            push(heap.values.sortAt(cell), heap.values.numberAt(cell));
        }

        private void putMember(int s, int place) {
            top -= 2;
            int o = objectAt(top, place);
            if (o == NONE || !program.isSite(s)) return;
            sites.meetPut(s, heap.forms[o]);
            sites.breakWays(o, heap, program.sites);
            heap.give(o, program.siteNames[s], stack.sortAt(top + 1), stack.numberAt(top + 1));
        }

        private void strikeMember(int s, int place) {
            top--;
            int o = objectAt(top, place);
            if (o == NONE || !program.isSite(s)) return;
            sites.meetStrike(s);
            if (heap.find(o, program.siteNames[s]) == NONE) return;
            sites.breakWays(o, heap, program.sites);
            heap.strike(o, program.siteNames[s]);
        }

        private void leaveMade(int s) {
            int f = program.siteFns[s];
            if (!program.isFn(f)) return;
            functions.leave(f, s);
            sites.dropGuesses(program, f);
        }

        private void makeRow(int place) {
            top--;
            long size = stack.numberAt(top);
            if (!stack.isNumberAt(top)) {
                fail(NO_NUMBER, place);
                return;
            }
            if (size < 0 || size > MOST_ITEMS) {
                fail(WRONG_SIZE, place);
                return;
            }
            int made = rows.addRow((int) size);
            if (made == NONE) fail(NO_ROOM, place);
            else push(ROW, made);
        }

        private void getItem(int place) {
            top -= 2;
            int at = itemAt(place);
            if (at != NONE) push(rows.items.sortAt(at), rows.items.numberAt(at));
        }

        private void putItem(int place) {
            top -= 3;
            int at = itemAt(place);
            if (at == NONE) return;
            rows.putAt((int) stack.numberAt(top), at, stack.sortAt(top + 2), stack.numberAt(top + 2));
        }

        /** Where the item of the row and the place above the stack's top is kept; NONE: it failed. */
        private int itemAt(int place) {
            if (stack.sortAt(top) != ROW) {
                fail(NO_OBJECT, place);
                return NONE;
            }
            if (!stack.isNumberAt(top + 1)) {
                fail(NO_NUMBER, place);
                return NONE;
            }
            int at = rows.placeOf((int) stack.numberAt(top), stack.numberAt(top + 1));
            if (at == NONE) fail(NO_PLACE, place);
            return at;
        }

        private void measure(int place) {
            top--;
            int sort = stack.sortAt(top);
            int number = (int) stack.numberAt(top);
            if (sort == ROW && rows.isRow(number)) push(WHOLE, rows.sizes[number]);
            else if (sort == OBJECT && heap.isObject(number)) push(WHOLE, heap.sizes[number]);
            else fail(NO_OBJECT, place);
        }

        private void enter(int f, int place) {
            if (!program.isFn(f) || !takeStep()) return;
            if (depth >= MOST_DEPTH) {
                fail(TOO_DEEP, place);
                return;
            }
            calls++;
            if (functions.makes(f)) sites.takeGuesses(program, f);
            returns[depth] = pc;
            depth++;
            deepest = Math.max(deepest, depth);
            clearVariables();
            top -= program.fnTakes[f];
            for (int n = 0; n < program.fnTakes[f]; n++) {
                variables.set(depth * MOST_VARIABLES + n, stack.sortAt(top + n), stack.numberAt(top + n));
            }
            pc = program.fnStarts[f];
        }

        /** The value of the return stays where it is: on top of what waits in the call around it. */
        private void leave() {
            if (depth == 0) {
                ending = ENDED;
                return;
            }
            depth--;
            pc = returns[depth];
        }

        private void print() {
            top--;
            sheet.set(printedInAll, stack.sortAt(top), stack.numberAt(top));
            printedInAll++;
        }

        private void branch(int past, int place) {
            top--;
            if (!stack.isNumberAt(top)) fail(NO_NUMBER, place);
            else if (stack.numberAt(top) == 0) pc = past;
        }

        int keptOnPaper() {
            return Math.min(printedInAll, MOST_PAPER);
        }

        int tellOfRun(int what) {
            switch (what) {
                case 0: return failure;
                case 1: return failurePlace;
                case 2: return steps;
                case 3: return calls;
                case 4: return heap.made;
                case 5: return heap.shapes.made;
                case 6: return rows.made;
                default: return printedInAll;
            }
        }

        int tellOfCaches(int what) {
            switch (what) {
                case 8: return heap.dictionaries;
                case 9: return sites.readHits;
                case 10: return sites.readMisses;
                case 11: return sites.broken;
                case 12: return functions.madeInAll;
                case 13: return functions.leftInAll;
                case 14: return rows.widened;
                default: return deepest;
            }
        }
    }
}
