import java.util.Arrays;

/**
 * A small tongue of lists. Texts come over a tape, are checked and turned into code for a stack machine,
 * and are worked by counted runs that can be held up and gone on with; a pointer looks at what was made.
 */
public final class BracketTongue {
    public static final int NONE = -1;

    private static final int TAPE_MOST = 3000;
    private static final int FEED_BYTES = 20;
    private static final int STEPS_MOST = 20000;
    private static final int NOT_SO_MANY = -2;

    // The kinds of values, as at(0) answers them. Code that pushes a constant has its kind as the operation.
    private static final int NOTHING = 0;
    private static final int INTEGER = 1;
    private static final int FALSE = 2;
    private static final int TRUE = 3;
    private static final int EMPTY = 4;
    private static final int NAME = 5;
    private static final int PAIR = 6;
    private static final int PROCEDURE = 7;
    private static final int PRIMITIVE = 8;
    // Kinds that stay inside the machine: a binding that has nothing yet, and a binding that lives in the
    // heap because a procedure keeps it.
    private static final int UNSET = 9;
    private static final int SHARED = 10;

    // The operations of the code. The three that read and the three that set stand in the same order.
    private static final int LOCAL = 16;
    private static final int KEPT = 17;
    private static final int GLOBAL = 18;
    private static final int SET_LOCAL = 19;
    private static final int SET_KEPT = 20;
    private static final int SET_GLOBAL = 21;
    private static final int BLANKS = 22;
    private static final int FIRST_VALUE = 23;
    private static final int DEFINED = 24;
    private static final int CLOSE_OVER = 25;
    private static final int JUMP = 26;
    private static final int JUMP_IF_FALSE = 27;
    private static final int STOP_IF_FALSE = 28;
    private static final int STOP_IF_TRUE = 29;
    private static final int DROP = 30;
    private static final int SLIDE = 31;
    private static final int CALL = 32;
    private static final int LAST_CALL = 33;
    private static final int GIVE_BACK = 34;
    private static final int FORM_THROUGH = 35;
    private static final int ALL_THROUGH = 36;

    // The words of forms and of primitives: their names' numbers in the table of names.
    private static final String WORDS_OF_FORMS = "quote lambda if let letrec set! begin and or define ";
    private static final String WORDS_OF_ONE = "car cdr pair? null? integer? procedure? not emit ";
    private static final String WORDS_OF_TWO = "cons set-car! set-cdr! eq? + - * quotient remainder = < ";
    private static final String WORDS_OF_NONE = "read ";
    private static final int QUOTE = 0;
    private static final int LAMBDA = 1;
    private static final int IF = 2;
    private static final int LET = 3;
    private static final int LETREC = 4;
    private static final int SET = 5;
    private static final int BEGIN = 6;
    private static final int AND = 7;
    private static final int OR = 8;
    private static final int DEFINE = 9;
    private static final int FORM_WORDS = 10;
    private static final int ALL_WORDS = 30;

    // The primitives, in the order of their words.
    private static final int CAR = 0;
    private static final int CDR = 1;
    private static final int IS_PAIR = 2;
    private static final int IS_NULL = 3;
    private static final int IS_INTEGER = 4;
    private static final int IS_PROCEDURE = 5;
    private static final int NOT = 6;
    private static final int EMIT = 7;
    private static final int CONS = 8;
    private static final int SET_CAR = 9;
    private static final int SET_CDR = 10;
    private static final int IS_EQ = 11;
    private static final int PLUS = 12;
    private static final int MINUS = 13;
    private static final int TIMES = 14;
    private static final int QUOTIENT = 15;
    private static final int REMAINDER = 16;
    private static final int EQUALS = 17;
    private static final int LESS = 18;
    private static final int READ = 19;

    private static final int FAULT_TOKEN = 1;
    private static final int FAULT_NESTING = 2;
    private static final int FAULT_FORM = 3;
    private static final int FAULT_MEANING = 4;
    private static final int FAULT_BINDING = 5;
    private static final int FAULT_ROOM = 6;

    private static final int ERROR_NOT_CALLABLE = 1;
    private static final int ERROR_HOW_MANY = 2;
    private static final int ERROR_KIND = 3;
    private static final int ERROR_DIVISION = 4;
    private static final int ERROR_NOTHING_YET = 5;
    private static final int ERROR_ROOM = 6;
    private static final int ERROR_DEEP = 7;

    private static final int RUN_THROUGH = 0;
    private static final int RUN_STEPS = 1;
    private static final int RUN_INPUT_LACKS = 2;
    private static final int RUN_OUTPUTS_FULL = 3;
    private static final int RUN_ERROR = 10;

    private static final int NESTING_MOST = 30;
    private static final int NAME_BYTES_MOST = 12;
    private static final int PARTS_MOST = 8;
    private static final int DEFINED_MOST = 100;
    private static final int LAMBDAS_MOST = 120;
    private static final int FORMS_MOST = 1500;
    private static final int CELLS_MOST = 40000;
    private static final int OPEN_MOST = 1000;
    private static final int INPUTS_MOST = 200;
    private static final int OUTPUTS_MOST = 1000;
    private static final int PLACES = 4;

    private final byte[] tape;
    private int tapeLength;
    private final Fault found;
    private final Reader reader;
    private final Compiler compiler;
    private final Machine machine;
    // A text is compiled into the spare one, so that a fault leaves the program of before as it is.
    private Program program;
    private Program spare;
    private boolean hasProgram;
    private long pointer;
    private final long[] places;

    public BracketTongue() {
        tape = new byte[TAPE_MOST];
        found = new Fault();
        reader = new Reader(found);
        program = new Program();
        spare = new Program();
        compiler = new Compiler(reader, found, spare);
        machine = new Machine(program);
        pointer = NOTHING;
        places = new long[PLACES];
    }

    public int feed(int a, int b, int c, int d, int e) {
        if (tapeLength + FEED_BYTES > TAPE_MOST) {
            return NONE;
        }
        putOnTape(a);
        putOnTape(b);
        putOnTape(c);
        putOnTape(d);
        putOnTape(e);
        return tapeLength;
    }

    private void putOnTape(int number) {
        for (int shift = 24; shift >= 0; shift -= 8) {
            if (tapeLength < tape.length) {
                tape[tapeLength] = (byte) (number >> shift);
                tapeLength++;
            }
        }
    }

    public int build(int n) {
        if (n < 0 || n > tapeLength) {
            return NOT_SO_MANY;
        }
        tapeLength = 0;
        found.forget();
        reader.readText(tape, n);
        if (found.isNone()) {
            compiler.compile(spare);
        }
        if (!found.isNone()) {
            return NONE;
        }
        Program before = program;
        program = spare;
        spare = before;
        hasProgram = true;
        beginAnew();
        return 0;
    }

    public int fault(int what) {
        switch (what) {
            case 0:
                return found.kind;
            case 1:
                return found.place;
            default:
                return NONE;
        }
    }

    public boolean restart() {
        if (hasProgram) {
            beginAnew();
        }
        return hasProgram;
    }

    private void beginAnew() {
        machine.begin(program);
        pointer = NOTHING;
        Arrays.fill(places, NOTHING);
    }

    public int input(int v) {
        return hasProgram ? machine.ports.take(v) : NONE;
    }

    public int run(int n) {
        if (!hasProgram || n < 0 || n > STEPS_MOST) {
            return NONE;
        }
        machine.work(n);
        pointer = machine.latest;
        return machine.answer;
    }

    public int output(int i) {
        return machine.ports.outputAt(i);
    }

    public int clear() {
        return machine.ports.dropOutputs();
    }

    public boolean global(int i) {
        if (!hasProgram || i < 0 || i >= program.defined) {
            return false;
        }
        pointer = machine.definedValue(i);
        return true;
    }

    public boolean go(int which) {
        if (Value.kindOf(pointer) != PAIR || (which != 0 && which != 1)) {
            return false;
        }
        pointer = machine.heap.look(Value.contentOf(pointer) + which);
        return true;
    }

    public boolean mark(int place) {
        if (place < 0 || place >= PLACES) {
            return false;
        }
        places[place] = pointer;
        return true;
    }

    public boolean same(int place) {
        return place >= 0 && place < PLACES && places[place] == pointer;
    }

    public int at(int what) {
        switch (what) {
            case 0:
                return Value.kindOf(pointer);
            case 1:
                return numberAtPointer();
            default:
                return NONE;
        }
    }

    private int numberAtPointer() {
        int content = Value.contentOf(pointer);
        switch (Value.kindOf(pointer)) {
            case INTEGER:
            case NAME:
                return content;
            case PROCEDURE:
                return program.wantedBy(machine.heap.lambdaOf(content));
            case PRIMITIVE:
                return Machine.wantedByPrimitive(content);
            default:
                return 0;
        }
    }

    public int count(int what) {
        switch (what) {
            case 0:
                return tapeLength;
            case 1:
                return hasProgram ? 1 : 0;
            case 2:
                return program.rowForms;
            case 3:
                return machine.through;
            case 4:
                return program.defined;
            case 5:
                return program.lambdas;
            case 6:
                return machine.ports.inputs;
            case 7:
                return machine.ports.outputs;
            case 8:
                return machine.heap.cells;
            case 9:
                return machine.open;
            case 10:
                return machine.steps;
            case 11:
                return machine.answer;
            default:
                return NONE;
        }
    }

    /** Values as numbers of 64 bits: the kind above, the content below; two are eq? if they are equal. */
    private static final class Value {
        static long of(int kind, int content) {
            return ((long) kind << 32) | (content & 0xFFFFFFFFL);
        }

        static int kindOf(long value) {
            return (int) (value >>> 32);
        }

        static int contentOf(long value) {
            return (int) value;
        }

        static long truth(boolean isSo) {
            return of(isSo ? TRUE : FALSE, 0);
        }
    }

    /** Rows that grow by doubling, so that a new object is small and a row is made anew a few times only. */
    private static final class Rows {
        static int[] withRoom(int[] row, int size) {
            return size <= row.length ? row : Arrays.copyOf(row, Math.max(size, 2 * row.length));
        }

        static long[] withRoom(long[] row, int size) {
            return size <= row.length ? row : Arrays.copyOf(row, Math.max(size, 2 * row.length));
        }
    }

    /** The first fault that was told since it was forgotten. */
    private static final class Fault {
        int kind;
        int place = NONE;

        void forget() {
            kind = 0;
            place = NONE;
        }

        boolean isNone() {
            return kind == 0;
        }

        void tell(int newKind, int newPlace) {
            if (kind == 0) {
                kind = newKind;
                place = newPlace;
            }
        }
    }

    /** The table of names: the words come first, then the others; each is told in sign by sign. */
    private static final class Names {
        private static final int HEADS = 256;
        private static final int FRONT_BYTES = 6;

        private long[] fronts = new long[64];
        private long[] backs = new long[64];
        private int[] chains = new int[64];
        // As the names are met along the text, which is not the order of this table.
        private int[] numbers = new int[64];
        private final int[] heads = new int[HEADS];
        private int size;
        private int met;
        private long front;
        private long back;
        private int signs;

        /** Makes room for a text's names; any two of them have a byte between them. */
        void begin(int textLength) {
            int most = ALL_WORDS + 1 + textLength / 2 + 1;
            fronts = Rows.withRoom(fronts, most);
            backs = Rows.withRoom(backs, most);
            chains = Rows.withRoom(chains, most);
            numbers = Rows.withRoom(numbers, most);
            Arrays.fill(heads, NONE);
            size = 0;
            met = 0;
            takeWords(WORDS_OF_FORMS);
            takeWords(WORDS_OF_ONE);
            takeWords(WORDS_OF_TWO);
            takeWords(WORDS_OF_NONE);
        }

        private void takeWords(String words) {
            startName();
            for (int i = 0; i < words.length(); i++) {
                char sign = words.charAt(i);
                if (sign == ' ') {
                    endName();
                    startName();
                } else {
                    takeSign(sign);
                }
            }
        }

        void startName() {
            front = 0;
            back = 0;
            signs = 0;
        }

        void takeSign(int sign) {
            if (signs < FRONT_BYTES) {
                front = (front << 8) | sign;
            } else {
                back = (back << 8) | sign;
            }
            signs++;
        }

        /** The name's number in this table, where it is put if it was not there. */
        int endName() {
            int head = (int) ((front * 0x9E3779B97F4A7C15L + back * 0xC2B2AE3D27D4EB4FL) >>> 56) & (HEADS - 1);
            int name = heads[head];
            for (int i = 0; i < size && name >= 0 && name < size; i++) {
                if (fronts[name] == front && backs[name] == back) {
                    return name;
                }
                name = chains[name];
            }
            return added(head);
        }

        private int added(int head) {
            if (size >= fronts.length || head < 0 || head >= HEADS) {
                return NONE;
            }
            fronts[size] = front;
            backs[size] = back;
            chains[size] = heads[head];
            numbers[size] = NONE;
            heads[head] = size;
            size++;
            return size - 1;
        }

        void meet(int name) {
            if (name >= 0 && name < size && numbers[name] == NONE) {
                numbers[name] = met;
                met++;
            }
        }

        int numberOf(int name) {
            return name >= 0 && name < size ? numbers[name] : 0;
        }

        int known() {
            return size;
        }
    }

    /** Reads a text into a tree of data: node 0 is the row, a list's content is how many parts it has. */
    private static final class Reader {
        static final int ROW = 0;
        private static final String SIGNS = "+-*/<>=!?_#";
        private static final long MAGNITUDE_MOST = 2147483648L;

        private final Fault found;
        final Names names = new Names();
        private int[] kinds = new int[64];
        private int[] contents = new int[64];
        private int[] tokenPlaces = new int[64];
        private int[] firsts = new int[64];
        private int[] nexts = new int[64];
        private int size;
        // The lists that are not closed yet, the row at 0, with their latest parts.
        private final int[] openLists = new int[NESTING_MOST + 1];
        private final int[] latestParts = new int[NESTING_MOST + 1];
        private final boolean[] isQuote = new boolean[NESTING_MOST + 1];
        private int nesting;
        private byte[] text;
        private int length;

        Reader(Fault found) {
            this.found = found;
            this.text = new byte[0];
        }

        void readText(byte[] newText, int newLength) {
            text = newText;
            length = Math.min(newLength, newText.length);
            names.begin(length);
            beginNodes();
            nesting = 0;
            openLists[0] = newNode(PAIR, 0, 0);
            latestParts[0] = NONE;
            isQuote[0] = false;
            int here = 0;
            for (int tokens = 0; tokens < length && here < length && found.isNone(); tokens++) {
                here = behindToken(here);
            }
            if (nesting > 0) {
                found.tell(FAULT_TOKEN, length);
            }
        }

        /** Makes room for the row, and two nodes a byte: so many has a ' alone. */
        private void beginNodes() {
            int most = 1 + 2 * length;
            kinds = Rows.withRoom(kinds, most);
            contents = Rows.withRoom(contents, most);
            tokenPlaces = Rows.withRoom(tokenPlaces, most);
            firsts = Rows.withRoom(firsts, most);
            nexts = Rows.withRoom(nexts, most);
            size = 0;
        }

        private int signAt(int place) {
            return place >= 0 && place < length ? text[place] & 255 : 0;
        }

        private int behindToken(int place) {
            int sign = signAt(place);
            if (sign == ' ' || sign == '\n' || sign == '\t') {
                return place + 1;
            }
            if (sign == ';') {
                return behindLine(place);
            }
            if (isWordSign(sign)) {
                int end = behindWord(place);
                takeWord(place, end);
                return end;
            }
            if (sign == '(') {
                openList(place, false);
            } else if (sign == '\'') {
                openQuote(place);
            } else if (sign == ')' && nesting > 0 && !isInQuote()) {
                nesting--;
                closeQuotes();
            } else {
                found.tell(FAULT_TOKEN, place);
            }
            return place + 1;
        }

        private int behindLine(int place) {
            for (int i = place; i < length; i++) {
                if (signAt(i) == '\n') {
                    return i + 1;
                }
            }
            return length;
        }

        private static boolean isDigit(int sign) {
            return sign >= '0' && sign <= '9';
        }

        private static boolean isWordSign(int sign) {
            return (sign >= 'a' && sign <= 'z') || isDigit(sign) || SIGNS.indexOf((char) sign) >= 0;
        }

        private int behindWord(int place) {
            int end = place + 1;
            while (end < length && isWordSign(signAt(end))) {
                end++;
            }
            return end;
        }

        private void takeWord(int place, int end) {
            int sign = signAt(place);
            int second = end - place > 1 ? signAt(place + 1) : 0;
            if (isDigit(sign) || (sign == '-' && isDigit(second))) {
                takeInteger(place, end);
            } else if (sign == '#') {
                takeTruth(place, end);
            } else if (end - place > NAME_BYTES_MOST) {
                found.tell(FAULT_TOKEN, place);
            } else {
                takeDatum(NAME, nameFrom(place, end), place);
            }
        }

        private void takeInteger(int place, int end) {
            boolean isNegative = signAt(place) == '-';
            long magnitude = 0;
            for (int i = isNegative ? place + 1 : place; i < end; i++) {
                int sign = signAt(i);
                if (!isDigit(sign)) {
                    found.tell(FAULT_TOKEN, place);
                    return;
                }
                // Held down, so that a long row of digits can't wrap into what would be small again.
                magnitude = Math.min(magnitude * 10 + (sign - '0'), MAGNITUDE_MOST + 1);
            }
            if (magnitude > (isNegative ? MAGNITUDE_MOST : MAGNITUDE_MOST - 1)) {
                found.tell(FAULT_TOKEN, place);
                return;
            }
            takeDatum(INTEGER, (int) (isNegative ? -magnitude : magnitude), place);
        }

        private void takeTruth(int place, int end) {
            int second = signAt(place + 1);
            if (end - place == 2 && (second == 't' || second == 'f')) {
                takeDatum(second == 't' ? TRUE : FALSE, 0, place);
            } else {
                found.tell(FAULT_TOKEN, place);
            }
        }

        private int nameFrom(int place, int end) {
            names.startName();
            for (int i = place; i < end; i++) {
                names.takeSign(signAt(i));
            }
            int name = names.endName();
            names.meet(name);
            return name;
        }

        private void takeDatum(int kind, int content, int place) {
            addPart(newNode(kind, content, place));
            closeQuotes();
        }

        private boolean openList(int place, boolean quotes) {
            if (nesting >= NESTING_MOST) {
                found.tell(FAULT_NESTING, place);
                return false;
            }
            int list = newNode(PAIR, 0, place);
            addPart(list);
            nesting++;
            openLists[nesting] = list;
            latestParts[nesting] = NONE;
            isQuote[nesting] = quotes;
            return true;
        }

        private void openQuote(int place) {
            if (openList(place, true)) {
                names.meet(QUOTE);
                addPart(newNode(NAME, QUOTE, place));
            }
        }

        /** A datum has come to its end: so have those that only a ' began for it. */
        private void closeQuotes() {
            for (int i = 0; i < NESTING_MOST && isInQuote(); i++) {
                nesting--;
            }
        }

        private boolean isInQuote() {
            return nesting > 0 && nesting <= NESTING_MOST && isQuote[nesting];
        }

        private int newNode(int kind, int content, int place) {
            if (size >= kinds.length) {
                return ROW;
            }
            kinds[size] = kind;
            contents[size] = content;
            tokenPlaces[size] = place;
            firsts[size] = NONE;
            nexts[size] = NONE;
            size++;
            return size - 1;
        }

        private void addPart(int node) {
            int list = nesting >= 0 && nesting <= NESTING_MOST ? openLists[nesting] : NONE;
            if (list < 0 || list >= size) {
                return;
            }
            int latest = latestParts[nesting];
            if (latest >= 0 && latest < size) {
                nexts[latest] = node;
            } else {
                firsts[list] = node;
            }
            latestParts[nesting] = node;
            contents[list]++;
        }

        int size() {
            return size;
        }

        int kindOf(int node) {
            return node >= 0 && node < size ? kinds[node] : NOTHING;
        }

        int contentOf(int node) {
            return node >= 0 && node < size ? contents[node] : 0;
        }

        int placeOf(int node) {
            return node >= 0 && node < size ? tokenPlaces[node] : 0;
        }

        int firstOf(int node) {
            return node >= 0 && node < size ? firsts[node] : NONE;
        }

        int nextOf(int node) {
            return node >= 0 && node < size ? nexts[node] : NONE;
        }

        int secondOf(int node) {
            return nextOf(firstOf(node));
        }

        boolean isList(int node) {
            return node >= 0 && node < size && kinds[node] == PAIR;
        }

        boolean isName(int node) {
            return node >= 0 && node < size && kinds[node] == NAME;
        }

        int partsOf(int node) {
            return kindOf(node) == PAIR ? contentOf(node) : 0;
        }

        /** The word of forms that stands first in a list, or NONE. */
        int wordOf(int list) {
            int first = firstOf(list);
            return kindOf(first) == NAME && contentOf(first) < FORM_WORDS ? contentOf(first) : NONE;
        }
    }

    /** The bindings that are around while a text is compiled, and which of them each body keeps. */
    private static final class Scope {
        // Each binding and each body costs a nesting at least, so no text has more of them.
        private static final int BINDINGS_MOST = (NESTING_MOST + 1) * PARTS_MOST;
        private static final int BODIES_MOST = NESTING_MOST + 2;

        private int[] names = new int[16];
        private int[] slots = new int[16];
        private int[] owners = new int[16];
        private int size;
        private int body;
        private int[] keeps = new int[BINDINGS_MOST];
        private final int[] keptBy = new int[BODIES_MOST];

        void forgetAll() {
            size = 0;
            body = 0;
            Arrays.fill(keptBy, 0);
        }

        int bindings() {
            return size;
        }

        void bind(int name, int slot) {
            names = Rows.withRoom(names, size + 1);
            slots = Rows.withRoom(slots, size + 1);
            owners = Rows.withRoom(owners, size + 1);
            names[size] = name;
            slots[size] = slot;
            owners[size] = body;
            size++;
        }

        void unbindTo(int bindings) {
            size = Math.max(0, Math.min(size, bindings));
        }

        void enterBody() {
            int inner = body + 1;
            if (inner >= 0 && inner < BODIES_MOST) {
                body = inner;
                keptBy[inner] = 0;
            }
        }

        void leaveBody() {
            if (body > 0) {
                body--;
            }
        }

        /** The innermost binding of a name, or NONE. */
        int find(int name) {
            for (int binding = size - 1; binding >= 0; binding--) {
                if (names[binding] == name) {
                    return binding;
                }
            }
            return NONE;
        }

        boolean isOwn(int binding) {
            return ownerOf(binding) == body;
        }

        private int ownerOf(int binding) {
            return binding >= 0 && binding < size ? owners[binding] : body;
        }

        int slotOf(int binding) {
            return binding >= 0 && binding < size ? slots[binding] : 0;
        }

        /** The place of another body's binding among those that this body keeps. */
        int keep(int binding) {
            // A body can only hand on what it keeps itself, so all bodies between keep it too.
            for (int inner = ownerOf(binding) + 1; inner <= body && inner < BODIES_MOST; inner++) {
                if (keptPlace(inner, binding) == NONE && keptBy[inner] < BINDINGS_MOST) {
                    int end = inner * BINDINGS_MOST + keptBy[inner];
                    keeps = Rows.withRoom(keeps, end + 1);
                    keeps[end] = binding;
                    keptBy[inner]++;
                }
            }
            return keptPlace(body, binding);
        }

        private int keptPlace(int inner, int binding) {
            int kept = inner >= 0 && inner < BODIES_MOST ? keptBy[inner] : 0;
            int start = inner * BINDINGS_MOST;
            for (int place = start; place < start + kept && place < keeps.length; place++) {
                if (keeps[place] == binding) {
                    return place - start;
                }
            }
            return NONE;
        }

        int kept() {
            return body >= 0 && body < BODIES_MOST ? keptBy[body] : 0;
        }

        /** Where the body around finds the i-th binding kept: 2 * slot, or 2 * place among its kept ones + 1. */
        int sourceOf(int i) {
            int place = body * BINDINGS_MOST + i;
            int binding = place >= 0 && place < keeps.length ? keeps[place] : NONE;
            return ownerOf(binding) == body - 1 ? 2 * slotOf(binding) : 2 * keptPlace(body - 1, binding) + 1;
        }
    }

    /** A text that was built: code, lambdas, and the data of quotes as they lie in the heap at first. */
    private static final class Program {
        // A form's own operations are three at the most (lambda, if, letrec), and what it is a part of adds
        // two at the most (one to give its value back or drop it, and one behind a form of the row).
        private static final int CODE_PER_FORM = 5;

        private int[] operations = new int[64];
        private int[] operands = new int[64];
        private int size;
        long[] data = new long[16];
        int dataSize;
        private final int[] entries = new int[LAMBDAS_MOST];
        private final int[] wanted = new int[LAMBDAS_MOST];
        private final int[] depths = new int[LAMBDAS_MOST];
        private final int[] keepStarts = new int[LAMBDAS_MOST];
        private final int[] keepCounts = new int[LAMBDAS_MOST];
        private int[] sources = new int[16];
        private int sourcesSize;
        int lambdas;
        int rowForms;
        int rowDepth;
        int defined;

        /** Makes room for the code and data of a text that was read into so many nodes. */
        void begin(int nodes) {
            int most = CODE_PER_FORM * Math.min(nodes, FORMS_MOST) + 1;
            operations = Rows.withRoom(operations, most);
            operands = Rows.withRoom(operands, most);
            data = Rows.withRoom(data, 2 * nodes);
            size = 0;
            dataSize = 0;
            sourcesSize = 0;
            lambdas = 0;
            rowForms = 0;
            rowDepth = 0;
            defined = 0;
        }

        /** Puts an operation behind the others: its place. */
        int add(int operation, int operand) {
            if (size >= operations.length) {
                return NONE;
            }
            operations[size] = operation;
            operands[size] = operand;
            size++;
            return size - 1;
        }

        int operationAt(int place) {
            return place >= 0 && place < size ? operations[place] : ALL_THROUGH;
        }

        int operandAt(int place) {
            return place >= 0 && place < size ? operands[place] : 0;
        }

        /** Makes a jump lead to what is added next: where it had been set to lead before. */
        int landHere(int jump) {
            if (jump < 0 || jump >= size) {
                return NONE;
            }
            int before = operands[jump];
            operands[jump] = size;
            return before;
        }

        /** Makes room for pairs among the data: where the first of them is. */
        int reserve(int pairs) {
            int start = dataSize;
            dataSize = Math.min(start + 2 * pairs, data.length);
            return start;
        }

        void putDatum(int place, long value) {
            if (place >= 0 && place < dataSize) {
                data[place] = value;
            }
        }

        int addLambda(int wants) {
            if (lambdas >= LAMBDAS_MOST) {
                return NONE;
            }
            wanted[lambdas] = wants;
            lambdas++;
            return lambdas - 1;
        }

        void endLambda(int lambda, int entry, int depth, Scope scope) {
            if (lambda < 0 || lambda >= lambdas) {
                return;
            }
            entries[lambda] = entry;
            depths[lambda] = depth;
            keepStarts[lambda] = sourcesSize;
            keepCounts[lambda] = scope.kept();
            sources = Rows.withRoom(sources, sourcesSize + scope.kept());
            for (int i = 0; i < scope.kept(); i++) {
                sources[sourcesSize] = scope.sourceOf(i);
                sourcesSize++;
            }
        }

        int wantedBy(int lambda) {
            return lambda >= 0 && lambda < lambdas ? wanted[lambda] : 0;
        }

        int entryOf(int lambda) {
            return lambda >= 0 && lambda < lambdas ? entries[lambda] : 0;
        }

        int depthOf(int lambda) {
            return lambda >= 0 && lambda < lambdas ? depths[lambda] : 0;
        }

        int keptBy(int lambda) {
            return lambda >= 0 && lambda < lambdas ? keepCounts[lambda] : 0;
        }

        int sourceOf(int lambda, int i) {
            int place = lambda >= 0 && lambda < lambdas ? keepStarts[lambda] + i : NONE;
            return place >= 0 && place < sourcesSize ? sources[place] : 0;
        }
    }

    /** Goes through what was read once, along the text: tells the first fault, or has made the code. */
    private static final class Compiler {
        // Above what the reader lets through.
        private static final int LEVELS_MOST = NESTING_MOST + 2;

        private final Reader reader;
        private final Fault found;
        private final Scope scope = new Scope();
        private Program program;
        // By the name's number in the table: the number of the defined name, or NONE.
        private int[] definedAs = new int[64];
        private int forms;
        // How many values lie on the stack above the body's base, here and at the most.
        private int depth;
        private int deepest;

        Compiler(Reader reader, Fault found, Program program) {
            this.reader = reader;
            this.found = found;
            this.program = program;
        }

        void compile(Program target) {
            program = target;
            program.begin(reader.size());
            scope.forgetAll();
            forms = 0;
            depth = 0;
            deepest = 0;
            gatherDefined();
            program.rowForms = reader.partsOf(Reader.ROW);
            int node = reader.firstOf(Reader.ROW);
            for (int i = 0; i < program.rowForms && found.isNone(); i++) {
                form(node, false, 0);
                emit(FORM_THROUGH, 0, -1);
                node = reader.nextOf(node);
            }
            emit(ALL_THROUGH, 0, 0);
            program.rowDepth = deepest;
        }

        private void gatherDefined() {
            definedAs = Rows.withRoom(definedAs, reader.names.known());
            Arrays.fill(definedAs, NONE);
            int node = reader.firstOf(Reader.ROW);
            for (int i = 0; i < reader.partsOf(Reader.ROW); i++) {
                if (reader.wordOf(node) == DEFINE && isShaped(node, DEFINE, 0)) {
                    int name = reader.contentOf(reader.secondOf(node));
                    if (name >= ALL_WORDS && name < definedAs.length && definedAs[name] == NONE) {
                        definedAs[name] = program.defined;
                        program.defined++;
                    }
                }
                node = reader.nextOf(node);
            }
        }

        private int emit(int operation, int operand, int change) {
            depth += change;
            deepest = Math.max(deepest, depth);
            return program.add(operation, operand);
        }

        private void tell(int kind, int node) {
            found.tell(kind, reader.placeOf(node));
        }

        private void countForm(int node) {
            forms++;
            if (forms > FORMS_MOST) {
                tell(FAULT_ROOM, node);
            }
        }

        /** One form, whose value then lies on the stack; one in last place also gives it back. */
        private void form(int node, boolean last, int level) {
            if (!found.isNone() || level > LEVELS_MOST) {
                return;
            }
            if (reader.isList(node)) {
                listForm(node, last, level);
                return;
            }
            if (reader.isName(node)) {
                nameForm(node);
            } else {
                emit(reader.kindOf(node), reader.contentOf(node), 1);
            }
            countForm(node);
            giveBackIf(last);
        }

        private void giveBackIf(boolean last) {
            if (last) {
                emit(GIVE_BACK, 0, 0);
            }
        }

        private void nameForm(int node) {
            int name = reader.contentOf(node);
            if (name < FORM_WORDS) {
                tell(FAULT_FORM, node);
            } else if (name < ALL_WORDS) {
                emit(PRIMITIVE, name - FORM_WORDS, 1);
            } else if (hasMeaning(name)) {
                variable(name, LOCAL, 1);
            } else {
                tell(FAULT_MEANING, node);
            }
        }

        private boolean hasMeaning(int name) {
            return scope.find(name) != NONE || definedNumber(name) != NONE;
        }

        private int definedNumber(int name) {
            return name >= 0 && name < definedAs.length ? definedAs[name] : NONE;
        }

        /** The operation of three (LOCAL or SET_LOCAL, and the next two) that fits the name's binding. */
        private void variable(int name, int localOperation, int change) {
            int binding = scope.find(name);
            if (binding == NONE) {
                emit(localOperation + 2, definedNumber(name), change);
            } else if (scope.isOwn(binding)) {
                emit(localOperation, scope.slotOf(binding), change);
            } else {
                emit(localOperation + 1, scope.keep(binding), change);
            }
        }

        private void listForm(int node, boolean last, int level) {
            int word = reader.wordOf(node);
            if (!isShaped(node, word, level)) {
                tell(FAULT_FORM, node);
                return;
            }
            countForm(node);
            switch (word) {
                case IF:
                    ifForm(node, last, level + 1);
                    break;
                case LET:
                    letForm(node, last, level + 1);
                    break;
                case LETREC:
                    letrecForm(node, last, level + 1);
                    break;
                case BEGIN:
                    body(reader.secondOf(node), reader.partsOf(node) - 1, last, level + 1);
                    break;
                case AND:
                    untilForm(node, STOP_IF_FALSE, last, level + 1);
                    break;
                case OR:
                    untilForm(node, STOP_IF_TRUE, last, level + 1);
                    break;
                case NONE:
                    callForm(node, last, level + 1);
                    break;
                case LAMBDA:
                    lambdaForm(node, last, level + 1);
                    break;
                case QUOTE:
                    quoteForm(node, last, level + 1);
                    break;
                case SET:
                    setForm(node, last, level + 1);
                    break;
                default:
                    defineForm(node, level + 1);
                    break;
            }
        }

        private boolean isShaped(int node, int word, int level) {
            int parts = reader.partsOf(node);
            int second = reader.secondOf(node);
            switch (word) {
                case QUOTE:
                    return parts == 2;
                case LAMBDA:
                    return parts >= 3 && areNames(second);
                case IF:
                    return parts == 4;
                case LET:
                case LETREC:
                    return parts >= 3 && areBindings(second);
                case SET:
                    return parts == 3 && reader.isName(second);
                case BEGIN:
                case AND:
                case OR:
                    return parts >= 2;
                case DEFINE:
                    return level == 0 && parts == 3 && reader.isName(second);
                default:
                    return parts >= 1 && parts <= PARTS_MOST + 1;
            }
        }

        private boolean areNames(int list) {
            int parts = reader.partsOf(list);
            boolean areFine = reader.isList(list) && parts <= PARTS_MOST;
            int part = reader.firstOf(list);
            for (int i = 0; i < parts && areFine; i++) {
                areFine = reader.isName(part);
                part = reader.nextOf(part);
            }
            return areFine;
        }

        private boolean areBindings(int list) {
            int parts = reader.partsOf(list);
            boolean areFine = reader.isList(list) && parts <= PARTS_MOST;
            int part = reader.firstOf(list);
            for (int i = 0; i < parts && areFine; i++) {
                areFine = reader.partsOf(part) == 2 && reader.isName(reader.firstOf(part));
                part = reader.nextOf(part);
            }
            return areFine;
        }

        private void body(int first, int howMany, boolean last, int level) {
            int node = first;
            for (int i = 0; i < howMany; i++) {
                boolean isEnd = i == howMany - 1;
                form(node, last && isEnd, level);
                if (!isEnd) {
                    emit(DROP, 0, -1);
                }
                node = reader.nextOf(node);
            }
        }

        private void ifForm(int node, boolean last, int level) {
            int condition = reader.secondOf(node);
            int then = reader.nextOf(condition);
            form(condition, false, level);
            int toElse = emit(JUMP_IF_FALSE, 0, -1);
            form(then, last, level);
            int toEnd = last ? NONE : emit(JUMP, 0, 0);
            depth--;
            program.landHere(toElse);
            form(reader.nextOf(then), last, level);
            program.landHere(toEnd);
        }

        /** and, or: each part but the last may end it with its value. */
        private void untilForm(int node, int stop, boolean last, int level) {
            int parts = reader.partsOf(node) - 1;
            int part = reader.secondOf(node);
            int stops = NONE;
            for (int i = 0; i < parts - 1; i++) {
                form(part, false, level);
                // Until they can lead to the end, the stops lead to one another.
                stops = emit(stop, stops, -1);
                part = reader.nextOf(part);
            }
            form(part, last, level);
            for (int i = 0; i < parts - 1; i++) {
                stops = program.landHere(stops);
            }
            giveBackIf(last && parts > 1);
        }

        private void callForm(int node, boolean last, int level) {
            int parts = reader.partsOf(node);
            int part = reader.firstOf(node);
            for (int i = 0; i < parts; i++) {
                form(part, false, level);
                part = reader.nextOf(part);
            }
            emit(last ? LAST_CALL : CALL, parts - 1, 1 - parts);
        }

        /** Tells a word, or a name that stands before it in its list; a pair of a let has its name first. */
        private void checkBound(int list, int before, int node) {
            boolean isFine = reader.contentOf(node) >= ALL_WORDS;
            int part = reader.firstOf(list);
            for (int i = 0; i < before && isFine; i++) {
                int earlier = reader.isList(part) ? reader.firstOf(part) : part;
                isFine = reader.contentOf(earlier) != reader.contentOf(node);
                part = reader.nextOf(part);
            }
            if (!isFine) {
                // Not by tell: from build on, calls would go nine deep.
                found.tell(FAULT_BINDING, reader.placeOf(node));
            }
        }

        private void letForm(int node, boolean last, int level) {
            int start = depth;
            int around = scope.bindings();
            int list = reader.secondOf(node);
            int pairs = reader.partsOf(list);
            int pair = reader.firstOf(list);
            for (int i = 0; i < pairs; i++) {
                checkBound(list, i, reader.firstOf(pair));
                form(reader.secondOf(pair), false, level);
                pair = reader.nextOf(pair);
            }
            bindPairs(list, start);
            body(reader.nextOf(list), reader.partsOf(node) - 2, last, level);
            leaveBindings(around, start, pairs, last);
        }

        private void letrecForm(int node, boolean last, int level) {
            int start = depth;
            int around = scope.bindings();
            int list = reader.secondOf(node);
            int pairs = reader.partsOf(list);
            int pair = reader.firstOf(list);
            bindPairs(list, start);
            emit(BLANKS, pairs, pairs);
            for (int i = 0; i < pairs; i++) {
                checkBound(list, i, reader.firstOf(pair));
                form(reader.secondOf(pair), false, level);
                emit(FIRST_VALUE, start + i, -1);
                pair = reader.nextOf(pair);
            }
            body(reader.nextOf(list), reader.partsOf(node) - 2, last, level);
            leaveBindings(around, start, pairs, last);
        }

        private void bindPairs(int list, int start) {
            int pair = reader.firstOf(list);
            for (int i = 0; i < reader.partsOf(list); i++) {
                scope.bind(reader.contentOf(reader.firstOf(pair)), start + i);
                pair = reader.nextOf(pair);
            }
        }

        private void leaveBindings(int around, int start, int pairs, boolean last) {
            scope.unbindTo(around);
            if (!last) {
                emit(SLIDE, pairs, 0);
            }
            depth = start + 1;
        }

        private void lambdaForm(int node, boolean last, int level) {
            int list = reader.secondOf(node);
            int wants = reader.partsOf(list);
            int lambda = program.addLambda(wants);
            if (lambda == NONE) {
                tell(FAULT_ROOM, node);
                return;
            }
            emit(CLOSE_OVER, lambda, 1);
            int overBody = emit(JUMP, 0, 0);
            int outerDepth = depth;
            int outerDeepest = deepest;
            int around = scope.bindings();
            scope.enterBody();
            bindNames(list);
            depth = wants;
            deepest = wants;
            body(reader.nextOf(list), reader.partsOf(node) - 2, true, level);
            program.endLambda(lambda, overBody + 1, deepest, scope);
            scope.leaveBody();
            scope.unbindTo(around);
            depth = outerDepth;
            deepest = outerDeepest;
            program.landHere(overBody);
            giveBackIf(last);
        }

        private void bindNames(int list) {
            int name = reader.firstOf(list);
            for (int i = 0; i < reader.partsOf(list); i++) {
                checkBound(list, i, name);
                scope.bind(reader.contentOf(name), i);
                name = reader.nextOf(name);
            }
        }

        private void setForm(int node, boolean last, int level) {
            int second = reader.secondOf(node);
            int name = reader.contentOf(second);
            if (name < ALL_WORDS) {
                tell(FAULT_BINDING, second);
            } else if (!hasMeaning(name)) {
                tell(FAULT_MEANING, second);
            }
            form(reader.nextOf(second), false, level);
            if (found.isNone()) {
                variable(name, SET_LOCAL, 0);
            }
            giveBackIf(last);
        }

        private void defineForm(int node, int level) {
            int second = reader.secondOf(node);
            int name = reader.contentOf(second);
            if (name < ALL_WORDS) {
                tell(FAULT_BINDING, second);
            } else if (definedNumber(name) >= DEFINED_MOST) {
                tell(FAULT_ROOM, second);
            }
            form(reader.nextOf(second), false, level);
            emit(DEFINED, definedNumber(name), 0);
        }

        private void quoteForm(int node, boolean last, int level) {
            long value = datum(reader.secondOf(node), level);
            emit(Value.kindOf(value), Value.contentOf(value), 1);
            giveBackIf(last);
        }

        /** The datum of a quote as a value; the pairs of a list lie in a row among the program's data. */
        private long datum(int node, int level) {
            int kind = reader.kindOf(node);
            int content = reader.contentOf(node);
            if (kind == NAME) {
                return Value.of(NAME, reader.names.numberOf(content));
            }
            if (kind != PAIR) {
                return Value.of(kind, content);
            }
            if (content == 0 || level > LEVELS_MOST) {
                return Value.of(EMPTY, 0);
            }
            int start = program.reserve(content);
            int part = reader.firstOf(node);
            for (int i = 0; i < content; i++) {
                int place = start + 2 * i;
                program.putDatum(place, datum(part, level + 1));
                program.putDatum(place + 1, i + 1 < content ? Value.of(PAIR, place + 2) : Value.of(EMPTY, 0));
                part = reader.nextOf(part);
            }
            return Value.of(PAIR, start);
        }
    }

    /**
     * What was made: pairs (two fields), procedures (the lambda, then where each kept binding is) and kept
     * bindings (one field). Nothing is ever given back: the CELLS are few enough.
     */
    private static final class Heap {
        private long[] fields = new long[64];
        private int size;
        int cells;

        void begin(Program program) {
            fields = Rows.withRoom(fields, program.dataSize);
            System.arraycopy(program.data, 0, fields, 0, program.dataSize);
            size = program.dataSize;
            cells = 0;
        }

        boolean hasRoom(int newCells) {
            return cells + newCells <= CELLS_MOST;
        }

        long look(int place) {
            return place >= 0 && place < size ? fields[place] : NOTHING;
        }

        void put(int place, long value) {
            if (place >= 0 && place < size) {
                fields[place] = value;
            }
        }

        long newPair(long first, long second) {
            int start = size;
            fields = Rows.withRoom(fields, start + 2);
            size = start + 2;
            put(start, first);
            put(start + 1, second);
            cells++;
            return Value.of(PAIR, start);
        }

        int newProcedure(int lambda, int kept) {
            int start = size;
            fields = Rows.withRoom(fields, start + 1 + kept);
            size = start + 1 + kept;
            put(start, lambda);
            cells += 1 + kept;
            return start;
        }

        int newBinding(long value) {
            int start = size;
            fields = Rows.withRoom(fields, start + 1);
            size = start + 1;
            put(start, value);
            return start;
        }

        int lambdaOf(int procedure) {
            return (int) look(procedure);
        }

        int keptOf(int procedure, int i) {
            return (int) look(procedure + 1 + i);
        }

        void putKept(int procedure, int i, int binding) {
            put(procedure + 1 + i, binding);
        }
    }

    /** The INPUTS, in a ring, and the OUTPUTS. */
    private static final class Ports {
        private final int[] ring = new int[INPUTS_MOST];
        private int firstInput;
        int inputs;
        private int[] row = new int[16];
        int outputs;

        void forgetAll() {
            firstInput = 0;
            inputs = 0;
            outputs = 0;
        }

        int take(int value) {
            if (inputs >= INPUTS_MOST) {
                return NONE;
            }
            ring[Math.floorMod(firstInput + inputs, INPUTS_MOST)] = value;
            inputs++;
            return inputs;
        }

        int nextInput() {
            if (inputs == 0) {
                return 0;
            }
            int value = ring[Math.floorMod(firstInput, INPUTS_MOST)];
            firstInput = Math.floorMod(firstInput + 1, INPUTS_MOST);
            inputs--;
            return value;
        }

        void give(int value) {
            if (outputs < OUTPUTS_MOST) {
                row = Rows.withRoom(row, outputs + 1);
                row[outputs] = value;
                outputs++;
            }
        }

        int outputAt(int i) {
            return i >= 0 && i < outputs ? row[i] : 0;
        }

        int dropOutputs() {
            int dropped = outputs;
            outputs = 0;
            return dropped;
        }
    }

    /**
     * Works the code. The stack has, for each open call, what is called, what it got (from its base on),
     * then the bindings and values of its body. What holds a run up leaves everything as it was ahead of
     * the operation, so that the next run works it again.
     */
    private static final class Machine {
        // Far above what a run can need: each of 21,000 calls works an operation of its body once at most.
        private static final int TURNS_MOST = 1000000000;

        final Heap heap = new Heap();
        final Ports ports = new Ports();
        private Program program;
        private long[] stack = new long[64];
        private int top;
        private int base;
        private int self;
        private int place;
        int open;
        // Of each open call: where the code goes on behind it, and the base and the procedure there.
        private int[] backPlaces = new int[16];
        private int[] backBases = new int[16];
        private int[] backSelves = new int[16];
        private final long[] globals = new long[DEFINED_MOST];
        int answer = NONE;
        private boolean goes;
        private int stepsLeft;
        int steps;
        long latest;
        int through;

        Machine(Program program) {
            this.program = program;
        }

        void begin(Program newProgram) {
            program = newProgram;
            heap.begin(newProgram);
            ports.forgetAll();
            stack = Rows.withRoom(stack, newProgram.rowDepth);
            top = 0;
            base = 0;
            self = NONE;
            place = 0;
            open = 0;
            Arrays.fill(globals, Value.of(UNSET, 0));
            answer = NONE;
            steps = 0;
            latest = NOTHING;
            through = 0;
        }

        long definedValue(int i) {
            long value = i >= 0 && i < DEFINED_MOST ? globals[i] : NOTHING;
            return Value.kindOf(value) == UNSET ? NOTHING : value;
        }

        void work(int mostSteps) {
            if (answer == RUN_THROUGH || answer >= RUN_ERROR) {
                return;
            }
            stepsLeft = mostSteps;
            goes = true;
            for (int turn = 0; turn < TURNS_MOST && goes; turn++) {
                int operation = program.operationAt(place);
                int operand = program.operandAt(place);
                switch (operation) {
                    case LOCAL:
                    case KEPT:
                    case GLOBAL:
                        readVariable(operation, operand);
                        break;
                    case SET_LOCAL:
                    case SET_KEPT:
                    case SET_GLOBAL:
                        setVariable(operation, operand);
                        break;
                    case BLANKS:
                    case FIRST_VALUE:
                    case DEFINED:
                        beginBinding(operation, operand);
                        break;
                    case CLOSE_OVER:
                        closeOver(operand);
                        break;
                    case CALL:
                    case LAST_CALL:
                        callIt(operand, operation == LAST_CALL);
                        break;
                    case GIVE_BACK:
                        giveBack();
                        break;
                    case DROP:
                    case SLIDE:
                    case FORM_THROUGH:
                        leaveBehind(operation, operand);
                        break;
                    case ALL_THROUGH:
                        hold(RUN_THROUGH);
                        break;
                    default:
                        pushOrJump(operation, operand);
                        break;
                }
            }
        }

        private void hold(int why) {
            answer = why;
            goes = false;
        }

        private void fail(int error) {
            answer = RUN_ERROR + error;
            goes = false;
        }

        private void push(long value) {
            if (top < stack.length) {
                stack[top] = value;
                top++;
            }
        }

        private long pop() {
            if (top > 0) {
                top--;
            }
            return peek(top);
        }

        private long peek(int slot) {
            return slot >= 0 && slot < stack.length ? stack[slot] : NOTHING;
        }

        private void poke(int slot, long value) {
            if (slot >= 0 && slot < stack.length) {
                stack[slot] = value;
            }
        }

        private void readVariable(int operation, int operand) {
            long value = binding(operation, operand);
            if (Value.kindOf(value) == UNSET) {
                fail(ERROR_NOTHING_YET);
                return;
            }
            push(value);
            place++;
        }

        private void setVariable(int operation, int operand) {
            long before = binding(operation - SET_LOCAL + LOCAL, operand);
            if (Value.kindOf(before) == UNSET) {
                fail(ERROR_NOTHING_YET);
                return;
            }
            long value = pop();
            if (operation == SET_LOCAL) {
                setSlot(base + operand, value);
            } else if (operation == SET_KEPT) {
                heap.put(heap.keptOf(self, operand), value);
            } else {
                setGlobal(operand, value);
            }
            push(NOTHING);
            place++;
        }

        private long binding(int where, int operand) {
            if (where == LOCAL) {
                long value = peek(base + operand);
                return Value.kindOf(value) == SHARED ? heap.look(Value.contentOf(value)) : value;
            }
            if (where == KEPT) {
                return heap.look(heap.keptOf(self, operand));
            }
            return operand >= 0 && operand < DEFINED_MOST ? globals[operand] : NOTHING;
        }

        private void setSlot(int slot, long value) {
            long there = peek(slot);
            if (Value.kindOf(there) == SHARED) {
                heap.put(Value.contentOf(there), value);
            } else {
                poke(slot, value);
            }
        }

        private void setGlobal(int i, long value) {
            if (i >= 0 && i < DEFINED_MOST) {
                globals[i] = value;
            }
        }

        private void beginBinding(int operation, int operand) {
            if (operation == BLANKS) {
                for (int i = 0; i < operand; i++) {
                    push(Value.of(UNSET, 0));
                }
            } else if (operation == FIRST_VALUE) {
                setSlot(base + operand, pop());
            } else {
                setGlobal(operand, pop());
                push(NOTHING);
            }
            place++;
        }

        private void closeOver(int lambda) {
            int kept = program.keptBy(lambda);
            if (!heap.hasRoom(1 + kept)) {
                fail(ERROR_ROOM);
                return;
            }
            int procedure = heap.newProcedure(lambda, kept);
            for (int i = 0; i < kept; i++) {
                int source = program.sourceOf(lambda, i);
                int from = source >> 1;
                heap.putKept(procedure, i, (source & 1) == 0 ? sharedAt(base + from) : heap.keptOf(self, from));
            }
            push(Value.of(PROCEDURE, procedure));
            place++;
        }

        /** A binding moves to the heap as it is kept for the first time: so the CELLS bound the heap. */
        private int sharedAt(int slot) {
            long there = peek(slot);
            if (Value.kindOf(there) == SHARED) {
                return Value.contentOf(there);
            }
            int binding = heap.newBinding(there);
            poke(slot, Value.of(SHARED, binding));
            return binding;
        }

        private void leaveBehind(int operation, int operand) {
            long value = pop();
            if (operation == SLIDE) {
                top = Math.max(0, top - operand);
                push(value);
            } else if (operation == FORM_THROUGH) {
                latest = value;
                through++;
            }
            place++;
        }

        private void pushOrJump(int operation, int operand) {
            switch (operation) {
                case JUMP:
                    place = operand;
                    break;
                case JUMP_IF_FALSE:
                    place = Value.kindOf(pop()) == FALSE ? operand : place + 1;
                    break;
                case STOP_IF_FALSE:
                    stopIf(Value.kindOf(peek(top - 1)) == FALSE, operand);
                    break;
                case STOP_IF_TRUE:
                    stopIf(Value.kindOf(peek(top - 1)) != FALSE, operand);
                    break;
                default:
                    push(Value.of(operation, operand));
                    place++;
                    break;
            }
        }

        private void stopIf(boolean stops, int end) {
            if (stops) {
                place = end;
            } else {
                pop();
                place++;
            }
        }

        private void callIt(int got, boolean last) {
            long called = peek(top - got - 1);
            switch (Value.kindOf(called)) {
                case PROCEDURE:
                    callProcedure(Value.contentOf(called), got, last);
                    break;
                case PRIMITIVE:
                    callPrimitive(Value.contentOf(called), got, last);
                    break;
                default:
                    fail(ERROR_NOT_CALLABLE);
                    break;
            }
        }

        private void callProcedure(int procedure, int got, boolean last) {
            int lambda = heap.lambdaOf(procedure);
            if (got != program.wantedBy(lambda)) {
                fail(ERROR_HOW_MANY);
            } else if (!last && open >= OPEN_MOST) {
                fail(ERROR_DEEP);
            } else if (stepsLeft <= 0) {
                hold(RUN_STEPS);
            } else {
                stepsLeft--;
                steps++;
                if (last) {
                    moveDown(got);
                } else {
                    openCall(got);
                }
                self = procedure;
                place = program.entryOf(lambda);
                stack = Rows.withRoom(stack, base + program.depthOf(lambda));
            }
        }

        /** What is called and what it gets take the place of the call that gives way. */
        private void moveDown(int got) {
            int from = top - got - 1;
            for (int i = 0; i <= got; i++) {
                poke(base - 1 + i, peek(from + i));
            }
            top = base + got;
        }

        private void openCall(int got) {
            backPlaces = Rows.withRoom(backPlaces, open + 1);
            backBases = Rows.withRoom(backBases, open + 1);
            backSelves = Rows.withRoom(backSelves, open + 1);
            backPlaces[open] = place + 1;
            backBases[open] = base;
            backSelves[open] = self;
            open++;
            base = top - got;
        }

        private void giveBack() {
            if (open <= 0 || open > backPlaces.length) {
                hold(RUN_THROUGH);
                return;
            }
            long value = pop();
            top = base - 1;
            push(value);
            open--;
            place = backPlaces[open];
            base = backBases[open];
            self = backSelves[open];
        }

        static int wantedByPrimitive(int primitive) {
            if (primitive == READ) {
                return 0;
            }
            return primitive < CONS ? 1 : 2;
        }

        private void callPrimitive(int primitive, int got, boolean last) {
            long first = got > 0 ? peek(top - got) : NOTHING;
            long second = got > 1 ? peek(top - 1) : NOTHING;
            int error = got == wantedByPrimitive(primitive) ? errorOf(primitive, first, second) : ERROR_HOW_MANY;
            if (error != 0) {
                fail(error);
            } else if (primitive == READ && ports.inputs == 0) {
                hold(RUN_INPUT_LACKS);
            } else if (primitive == EMIT && ports.outputs >= OUTPUTS_MOST) {
                hold(RUN_OUTPUTS_FULL);
            } else {
                long value = valueOf(primitive, first, second);
                top -= got + 1;
                push(value);
                if (last) {
                    giveBack();
                } else {
                    place++;
                }
            }
        }

        /** Why a primitive can't work with what it gets, or 0. */
        private int errorOf(int primitive, long first, long second) {
            switch (primitive) {
                case CAR:
                case CDR:
                case SET_CAR:
                case SET_CDR:
                    return Value.kindOf(first) == PAIR ? 0 : ERROR_KIND;
                case EMIT:
                    return Value.kindOf(first) == INTEGER ? 0 : ERROR_KIND;
                case PLUS:
                case MINUS:
                case TIMES:
                case EQUALS:
                case LESS:
                    return areIntegers(first, second) ? 0 : ERROR_KIND;
                case QUOTIENT:
                case REMAINDER:
                    if (!areIntegers(first, second)) {
                        return ERROR_KIND;
                    }
                    return Value.contentOf(second) == 0 ? ERROR_DIVISION : 0;
                case CONS:
                    return heap.hasRoom(1) ? 0 : ERROR_ROOM;
                default:
                    return 0;
            }
        }

        private static boolean areIntegers(long first, long second) {
            return Value.kindOf(first) == INTEGER && Value.kindOf(second) == INTEGER;
        }

        private long valueOf(int primitive, long first, long second) {
            int kind = Value.kindOf(first);
            switch (primitive) {
                case CAR:
                    return heap.look(Value.contentOf(first));
                case CDR:
                    return heap.look(Value.contentOf(first) + 1);
                case SET_CAR:
                    heap.put(Value.contentOf(first), second);
                    return NOTHING;
                case SET_CDR:
                    heap.put(Value.contentOf(first) + 1, second);
                    return NOTHING;
                case CONS:
                    return heap.newPair(first, second);
                case IS_PAIR:
                    return Value.truth(kind == PAIR);
                case IS_NULL:
                    return Value.truth(kind == EMPTY);
                case IS_INTEGER:
                    return Value.truth(kind == INTEGER);
                case IS_PROCEDURE:
                    return Value.truth(kind == PROCEDURE || kind == PRIMITIVE);
                case NOT:
                    return Value.truth(kind == FALSE);
                case IS_EQ:
                    return Value.truth(first == second);
                case EMIT:
                    ports.give(Value.contentOf(first));
                    return NOTHING;
                case READ:
                    return Value.of(INTEGER, ports.nextInput());
                default:
                    return reckoned(primitive, Value.contentOf(first), Value.contentOf(second));
            }
        }

        private static long reckoned(int primitive, int a, int b) {
            switch (primitive) {
                case PLUS:
                    return Value.of(INTEGER, a + b);
                case MINUS:
                    return Value.of(INTEGER, a - b);
                case TIMES:
                    return Value.of(INTEGER, a * b);
                case EQUALS:
                    return Value.truth(a == b);
                case LESS:
                    return Value.truth(a < b);
                case QUOTIENT:
                    return Value.of(INTEGER, b == 0 ? 0 : a / b);
                default:
                    return Value.of(INTEGER, b == 0 ? 0 : a % b);
            }
        }
    }
}
