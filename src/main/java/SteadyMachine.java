import java.util.Arrays;

/**
 * An object machine whose every step is bounded: images are read, verified and run step by step over a heap of
 * cells that is cleared while it is used.
 */
public final class SteadyMachine {
    public static final int NONE = -1;
    public static final int FULL = -2;

    private static final int TAPE_MOST = 8000;
    private static final int FEED_BYTES = 20;
    private static final int RUN_MOST = 20000;
    private static final int PORT_MOST = 1000;
    private static final int WRONG_BASE = -3;
    private static final int BAD_BASE = -10003;

    private static final int CLASSES_MOST = 32;
    private static final int FIELDS_MOST = 15;
    private static final int SLOTS = 16;
    private static final int THROWN = 5;
    private static final int METHODS_MOST = 64;
    private static final int TOLD_MOST = 7;
    private static final int PARAMS_MOST = 8;
    private static final int PLACES = 12;
    private static final int CODE_MOST = 1000;
    private static final int HANDLERS_MOST = 8;
    private static final int HANDLER_BYTES = 7;
    private static final int NO_BYTE = 255;

    private static final int INT = 0;
    private static final int ROWS = 64;
    private static final int NULL_TYPE = 97;
    private static final int ANY = 98;
    private static final int UNUSABLE = 99;

    private static final int CONST = 0;
    private static final int NULL = 1;
    private static final int LOAD = 2;
    private static final int STORE = 3;
    private static final int POP = 4;
    private static final int DUP = 5;
    private static final int SWAP = 6;
    private static final int ADD = 7;
    private static final int SUB = 8;
    private static final int MUL = 9;
    private static final int DIV = 10;
    private static final int REM = 11;
    private static final int AND = 12;
    private static final int OR = 13;
    private static final int XOR = 14;
    private static final int SHL = 15;
    private static final int SHR = 16;
    private static final int USHR = 17;
    private static final int NEG = 18;
    private static final int IF = 19;
    private static final int IFC = 20;
    private static final int IFNULL = 21;
    private static final int IFSOME = 22;
    private static final int IFSAME = 23;
    private static final int IFOTHER = 24;
    private static final int GOTO = 25;
    private static final int NEW = 26;
    private static final int GET = 27;
    private static final int PUT = 28;
    private static final int IS = 29;
    private static final int CAST = 30;
    private static final int ROW = 31;
    private static final int LENGTH = 32;
    private static final int AT = 33;
    private static final int TO = 34;
    private static final int CALL = 35;
    private static final int SEND = 36;
    private static final int RETURN = 37;
    private static final int GIVE = 38;
    private static final int THROW = 39;
    private static final int IN = 40;
    private static final int OUT = 41;

    /** How many bytes each instruction has, its operands with it. */
    private static final int[] SIZE = {
        5, 1, 2, 2, 1, 1, 1, 1, 1, 1, 1, 1, 1, 1, 1, 1, 1, 1, 1, 4, 4,
        3, 3, 3, 3, 3, 2, 3, 3, 2, 2, 2, 1, 1, 1, 2, 3, 1, 1, 1, 1, 1};

    private static final int NO_RUN = 0;
    private static final int GOES_ON = 1;
    private static final int RETURNED = 2;
    private static final int UNCAUGHT = 3;
    private static final int NO_ROOM = 4;

    private byte[] tape = new byte[0];
    private int taped;
    private boolean whole;
    private final Image image = new Image();
    private final Reader reader = new Reader(image);
    private final Linker linker = new Linker(image);
    private final Verifier verifier = new Verifier(image);
    private final Ports ports = new Ports();
    private final Heap heap = new Heap(image.classes, image.methods);
    private final Runner runner = new Runner(image, heap, ports);
    private final View view = new View(image, heap);

    public SteadyMachine() {
    }

    public int feed(int a, int b, int c, int d, int e) {
        if (taped + FEED_BYTES > TAPE_MOST) {
            return FULL;
        }
        if (tape.length < taped + FEED_BYTES) {
            tape = Arrays.copyOf(tape, roomFor(taped + FEED_BYTES, tape.length));
        }
        tapeNumber(a);
        tapeNumber(b);
        tapeNumber(c);
        tapeNumber(d);
        tapeNumber(e);
        return taped;
    }

    public int end(int n) {
        int had = taped;
        taped = 0;
        if (n < 0 || n > had) {
            return NONE;
        }
        runner.state = NO_RUN;
        whole = false;
        image.take(tape, n);
        int wrong = reader.firstWrong();
        if (wrong == NONE) {
            wrong = linker.firstWrong();
        }
        if (wrong != NONE) {
            return WRONG_BASE - wrong;
        }
        int bad = verifier.firstBad();
        if (bad != NONE) {
            return BAD_BASE - bad;
        }
        whole = true;
        return image.instructions;
    }

    public int input(int v) {
        return ports.add(v);
    }

    public void clear() {
        ports.inputs = 0;
    }

    public boolean start(int h, int k) {
        if (!whole) {
            return false;
        }
        heap.open(Math.max(1024, Math.min(60000, h)), Math.max(1, Math.min(64, k)));
        ports.rewind();
        runner.begin();
        return true;
    }

    public int run(int n) {
        if (n < 0 || n > RUN_MOST || runner.state != GOES_ON) {
            return NONE;
        }
        int done = 0;
        for (int i = 0; i < n && runner.state == GOES_ON; i++) {
            if (runner.step()) {
                done++;
            }
        }
        return done;
    }

    public int state() {
        return runner.state;
    }

    public long count(int what) {
        boolean there = runner.state != NO_RUN;
        switch (what) {
            case 0:
                return there ? runner.steps : 0;
            case 1:
                return there ? ports.taken : 0;
            case 2:
                return there ? ports.given : 0;
            case 3:
                return there ? runner.frames : 0;
            case 4:
                return there && heap.flies != 0 ? 1 : 0;
            case 5:
                return whole ? image.classes.many : 0;
            case 6:
                return whole ? image.methods.many : 0;
            default:
                return NONE;
        }
    }

    public int out(int i) {
        boolean given = runner.state != NO_RUN && i >= 0 && i < PORT_MOST && i < ports.given;
        return given ? ports.outs[i] : 0;
    }

    public int frame(int f, int what) {
        int at = runner.state == NO_RUN ? 0 : view.frameAt(f);
        return at == 0 ? NONE : view.ofFrame(at, what);
    }

    public long value(int f, int k, long path, int what) {
        if (runner.state == NO_RUN || what < 0 || what > 2) {
            return NONE;
        }
        long cell = f == NONE ? view.flying(k) : view.ofPlace(view.frameAt(f), k);
        return view.ask(view.along(cell, path), what);
    }

    public boolean same(int k, int other) {
        if (runner.state == NO_RUN) {
            return false;
        }
        int top = view.frameAt(0);
        return view.alike(view.ofPlace(top, k), view.ofPlace(top, other));
    }

    public int told(int what) {
        if (runner.state == NO_RUN) {
            return NONE;
        }
        switch (what) {
            case 0:
                return heap.cycles;
            case 1:
                return heap.isDone() ? 1 : 0;
            case 2:
                return heap.isDone() ? heap.moved() : NONE;
            case 3:
                return heap.made;
            case 4:
                return heap.limit;
            default:
                return NONE;
        }
    }

    public boolean steady() {
        return runner.state == NO_RUN || heap.steady;
    }

    public int stands(int m, int place, int what, int k) {
        return whole ? verifier.found(m, place, what, k) : NONE;
    }

    private void tapeNumber(int v) {
        for (int shift = 24; shift >= 0; shift -= 8) {
            tape[taped] = (byte) (v >> shift);
            taped++;
        }
    }

    /** Rows grow to twice their length at least, so that all rows a run makes stay within twice the longest. */
    private static int roomFor(int need, int have) {
        return Math.max(need, 2 * have);
    }

    /** The classes of an image, in rows by their numbers. */
    private static final class Classes {
        int many;
        final int[] upper = new int[CLASSES_MOST];
        final int[] fields = new int[CLASSES_MOST];
        final int[] fieldType = new int[CLASSES_MOST * FIELDS_MOST];
        final int[] slot = new int[CLASSES_MOST * SLOTS];
        /** Where in the image a class tells the slot's method; NONE where it does not tell it. */
        final int[] slotPlace = new int[CLASSES_MOST * SLOTS];
        final int[] thrown = new int[THROWN];

        void inherit(int c, int above) {
            upper[c] = above;
            fields[c] = above == NONE ? 0 : fields[above];
            for (int i = 0; i < FIELDS_MOST; i++) {
                fieldType[c * FIELDS_MOST + i] = above == NONE ? INT : fieldType[above * FIELDS_MOST + i];
            }
            for (int s = 0; s < SLOTS; s++) {
                slot[c * SLOTS + s] = above == NONE ? NONE : slot[above * SLOTS + s];
                slotPlace[c * SLOTS + s] = NONE;
            }
        }

        boolean isOrBelow(int c, int above) {
            int at = c;
            for (int i = 0; i < CLASSES_MOST && at != NONE; i++) {
                if (at == above) {
                    return true;
                }
                at = upper[at];
            }
            return false;
        }

        /** The lowest class that is above, or is, both: an upper class has the lower number. */
        int lowestAbove(int a, int b) {
            int one = a;
            int other = b;
            for (int i = 0; i < 2 * CLASSES_MOST && one != other; i++) {
                if (one > other) {
                    one = upper[one];
                } else {
                    other = upper[other];
                }
            }
            return one;
        }
    }

    /** The methods of an image, in rows by their numbers. */
    private static final class Methods {
        int many;
        int first;
        final int[] owner = new int[METHODS_MOST];
        final int[] params = new int[METHODS_MOST];
        final int[] paramType = new int[METHODS_MOST * PARAMS_MOST];
        final int[] gives = new int[METHODS_MOST];
        final int[] locals = new int[METHODS_MOST];
        final int[] stack = new int[METHODS_MOST];
        /** Where in the image the code begins. */
        final int[] code = new int[METHODS_MOST];
        final int[] length = new int[METHODS_MOST];
        final int[] handlers = new int[METHODS_MOST];
        /** Where in the image the handlers begin. */
        final int[] handlerPlace = new int[METHODS_MOST];

        void addParam(int m, int type) {
            paramType[m * PARAMS_MOST + params[m]] = type;
            params[m]++;
        }

        boolean sameButFirst(int m, int other) {
            if (params[m] != params[other] || gives[m] != gives[other]) {
                return false;
            }
            for (int i = 1; i < params[m]; i++) {
                if (paramType[m * PARAMS_MOST + i] != paramType[other * PARAMS_MOST + i]) {
                    return false;
                }
            }
            return true;
        }
    }

    /** An image: its bytes, and what was read of them. */
    private static final class Image {
        final Classes classes = new Classes();
        final Methods methods = new Methods();
        byte[] bytes = new byte[0];
        boolean[] begins = new boolean[0];
        int size;
        int instructions;

        void take(byte[] tape, int n) {
            if (bytes.length < n) {
                int room = roomFor(n, bytes.length);
                bytes = new byte[room];
                begins = new boolean[room];
            }
            System.arraycopy(tape, 0, bytes, 0, n);
            for (int i = 0; i < n; i++) {
                begins[i] = false;
            }
            size = n;
            instructions = 0;
        }

        int at(int p) {
            return p >= 0 && p < size ? bytes[p] & 255 : NONE;
        }

        int pair(int p) {
            return p >= 0 && p + 1 < size ? (bytes[p] & 255) << 8 | bytes[p + 1] & 255 : NONE;
        }

        int four(int p) {
            return pair(p) << 16 | pair(p + 2);
        }

        boolean beginsAt(int m, int place) {
            return place >= 0 && place < methods.length[m] && begins[methods.code[m] + place];
        }

        /** Where in the image the place stands that an instruction jumps to; NONE when it does not jump. */
        int jumpPlace(int p) {
            int op = at(p);
            if (op < IF || op > GOTO) {
                return NONE;
            }
            return op == IF || op == IFC ? p + 2 : p + 1;
        }
    }

    /** Reads an image up to the first byte that cannot stand there by what was read up to it. */
    private static final class Reader {
        private final Image image;
        private final Classes classes;
        private final Methods methods;
        private int at;
        private int wrong;

        Reader(Image image) {
            this.image = image;
            this.classes = image.classes;
            this.methods = image.methods;
        }

        int firstWrong() {
            at = 0;
            wrong = NONE;
            classes.many = number(1, CLASSES_MOST, NONE);
            for (int c = 0; c < classes.many && wrong == NONE; c++) {
                readClass(c);
            }
            for (int i = 0; i < THROWN; i++) {
                classes.thrown[i] = number(0, classes.many - 1, NONE);
            }
            methods.many = number(1, METHODS_MOST, NONE);
            for (int m = 0; m < methods.many && wrong == NONE; m++) {
                readMethod(m);
            }
            readFirst();
            if (wrong == NONE && at < image.size) {
                wrong = at;
            }
            return wrong;
        }

        /** A byte in a range, or one other byte; behind the first wrong one nothing is read, and all is 0. */
        private int number(int least, int most, int other) {
            if (wrong != NONE) {
                return 0;
            }
            int b = image.at(at);
            if (b == NONE || (b < least || b > most) && b != other) {
                wrong = at;
                return 0;
            }
            at++;
            return b;
        }

        private void skip(int n) {
            for (int i = 0; i < n; i++) {
                number(0, NO_BYTE, NONE);
            }
        }

        private int type(int other) {
            int b = image.at(at);
            if (b >= ROWS && b <= ROWS + classes.many) {
                return number(ROWS, ROWS + classes.many, NONE);
            }
            return number(0, classes.many, other);
        }

        private void readClass(int c) {
            int above = number(0, c - 1, NO_BYTE);
            if (wrong != NONE) {
                return;
            }
            classes.inherit(c, above == NO_BYTE ? NONE : above);
            int own = number(0, FIELDS_MOST - classes.fields[c], NONE);
            for (int i = 0; i < own && wrong == NONE; i++) {
                classes.fieldType[c * FIELDS_MOST + classes.fields[c]] = type(NONE);
                classes.fields[c]++;
            }
            int told = number(0, SLOTS, NONE);
            int least = 0;
            for (int i = 0; i < told && wrong == NONE; i++) {
                int s = number(least, SLOTS - 1, NONE);
                classes.slotPlace[c * SLOTS + s] = at;
                classes.slot[c * SLOTS + s] = number(0, NO_BYTE, NONE);
                least = s + 1;
            }
        }

        private void readMethod(int m) {
            int owner = number(0, classes.many - 1, NO_BYTE);
            methods.owner[m] = owner;
            methods.params[m] = 0;
            if (owner != NO_BYTE) {
                methods.addParam(m, owner + 1);
            }
            int told = number(0, TOLD_MOST, NONE);
            for (int i = 0; i < told && wrong == NONE; i++) {
                methods.addParam(m, type(NONE));
            }
            methods.gives[m] = type(NO_BYTE);
            methods.locals[m] = number(methods.params[m], PLACES, NONE);
            methods.stack[m] = number(0, PLACES - methods.locals[m], NONE);
            methods.length[m] = codeLength();
            methods.code[m] = at;
            readCode(m);
            methods.handlers[m] = number(0, HANDLERS_MOST, NONE);
            methods.handlerPlace[m] = at;
            for (int i = 0; i < methods.handlers[m]; i++) {
                skip(4);
                number(0, classes.many - 1, NONE);
                skip(2);
            }
        }

        private int codeLength() {
            int high = number(0, CODE_MOST >> 8, NONE);
            int least = high == 0 ? 1 : 0;
            int most = high == CODE_MOST >> 8 ? CODE_MOST & 255 : 255;
            return high << 8 | number(least, most, NONE);
        }

        private void readCode(int m) {
            int end = at + methods.length[m];
            for (int i = 0; i < CODE_MOST && at < end && wrong == NONE; i++) {
                int p = at;
                int op = number(0, OUT, NONE);
                if (wrong == NONE && p + SIZE[op] > end) {
                    wrong = p;
                }
                if (wrong == NONE) {
                    image.begins[p] = true;
                    image.instructions++;
                    readOperands(op, methods.locals[m]);
                }
            }
        }

        private void readOperands(int op, int locals) {
            switch (op) {
                case LOAD:
                case STORE:
                    number(0, locals - 1, NONE);
                    break;
                case IF:
                case IFC:
                    number(0, 5, NONE);
                    skip(2);
                    break;
                case NEW:
                case IS:
                case CAST:
                    number(0, classes.many - 1, NONE);
                    break;
                case GET:
                case PUT:
                    number(0, classes.fields[number(0, classes.many - 1, NONE)] - 1, NONE);
                    break;
                case ROW:
                    number(0, classes.many, NONE);
                    break;
                case SEND:
                    readSlot(number(0, classes.many - 1, NONE));
                    break;
                default:
                    skip(SIZE[op] - 1);
                    break;
            }
        }

        private void readSlot(int c) {
            int p = at;
            int s = number(0, SLOTS - 1, NONE);
            if (wrong == NONE && classes.slot[c * SLOTS + s] == NONE) {
                wrong = p;
            }
        }

        private void readFirst() {
            int p = at;
            int m = number(0, methods.many - 1, NONE);
            if (wrong == NONE && (methods.params[m] != 0 || methods.gives[m] != NO_BYTE)) {
                wrong = p;
            }
            methods.first = m;
        }
    }

    /** Finds what is wrong in an image by what stands behind it there. */
    private static final class Linker {
        private final Image image;
        private final Classes classes;
        private final Methods methods;

        Linker(Image image) {
            this.image = image;
            this.classes = image.classes;
            this.methods = image.methods;
        }

        int firstWrong() {
            int wrong = inSlots();
            for (int m = 0; m < methods.many && wrong == NONE; m++) {
                wrong = inCode(m);
                if (wrong == NONE) {
                    wrong = inHandlers(m);
                }
            }
            return wrong;
        }

        private int inSlots() {
            for (int c = 0; c < classes.many; c++) {
                for (int s = 0; s < SLOTS; s++) {
                    if (classes.slotPlace[c * SLOTS + s] != NONE && !slotFits(c, s)) {
                        return classes.slotPlace[c * SLOTS + s];
                    }
                }
            }
            return NONE;
        }

        private boolean slotFits(int c, int s) {
            int m = classes.slot[c * SLOTS + s];
            if (m >= methods.many || methods.owner[m] != c) {
                return false;
            }
            int above = classes.upper[c];
            int there = above == NONE ? NONE : classes.slot[above * SLOTS + s];
            return there == NONE || methods.sameButFirst(m, there);
        }

        private int inCode(int m) {
            int end = methods.code[m] + methods.length[m];
            for (int p = methods.code[m]; p < end; p++) {
                if (image.begins[p]) {
                    if (image.at(p) == CALL && image.at(p + 1) >= methods.many) {
                        return p + 1;
                    }
                    int jump = image.jumpPlace(p);
                    if (jump != NONE && !image.beginsAt(m, image.pair(jump))) {
                        return jump;
                    }
                }
            }
            return NONE;
        }

        private int inHandlers(int m) {
            for (int i = 0; i < methods.handlers[m]; i++) {
                int p = methods.handlerPlace[m] + i * HANDLER_BYTES;
                int from = image.pair(p);
                int to = image.pair(p + 2);
                if (!image.beginsAt(m, from) || from >= to) {
                    return p;
                }
                if (!image.beginsAt(m, to) && to != methods.length[m]) {
                    return p + 2;
                }
                if (!image.beginsAt(m, image.pair(p + 5))) {
                    return p + 5;
                }
            }
            return NONE;
        }
    }

    /** Finds what stands before each instruction, and the first instruction that is bad. */
    private static final class Verifier {
        /** Far more looks than a method can need: each of 1,000 instructions changes some 400 times at most. */
        private static final int LOOKS_MOST = 1000000;

        private final Image image;
        private final Classes classes;
        private final Methods methods;
        /** By places in the image: how high the stack is, NONE when nothing came; the types; the marks. */
        private byte[] heights = new byte[0];
        private byte[] types = new byte[0];
        private boolean[] marked = new boolean[0];
        private final int[] now = new int[PLACES];
        private int height;
        private int method;
        private int locals;
        private int lowestMark;
        private boolean fits;
        private int bad;

        Verifier(Image image) {
            this.image = image;
            this.classes = image.classes;
            this.methods = image.methods;
        }

        int firstBad() {
            if (marked.length < image.size) {
                int room = roomFor(image.size, marked.length);
                heights = new byte[room];
                marked = new boolean[room];
                types = new byte[room * PLACES];
            }
            for (int p = 0; p < image.size; p++) {
                heights[p] = NONE;
                marked[p] = false;
            }
            bad = NONE;
            for (int m = 0; m < methods.many && bad == NONE; m++) {
                verifyMethod(m);
            }
            return bad;
        }

        int found(int m, int place, int what, int k) {
            if (m < 0 || m >= methods.many || !image.beginsAt(m, place)) {
                return NONE;
            }
            int p = methods.code[m] + place;
            int high = heights[p];
            if (high == NONE || what == 0) {
                return high;
            }
            int first = what == 1 ? 0 : methods.locals[m];
            int many = what == 1 ? methods.locals[m] : high;
            boolean there = (what == 1 || what == 2) && k >= 0 && k < many;
            return there ? types[p * PLACES + first + k] : NONE;
        }

        private void verifyMethod(int m) {
            method = m;
            locals = methods.locals[m];
            for (int i = 0; i < locals; i++) {
                now[i] = i < methods.params[m] ? methods.paramType[m * PARAMS_MOST + i] : UNUSABLE;
            }
            lowestMark = methods.code[m];
            come(methods.code[m], 0);
            for (int i = 0; i < LOOKS_MOST && bad == NONE; i++) {
                int p = firstMarked();
                if (p == NONE) {
                    return;
                }
                marked[p] = false;
                lookAt(p);
            }
        }

        private int firstMarked() {
            int end = methods.code[method] + methods.length[method];
            for (int p = lowestMark; p < end; p++) {
                if (marked[p]) {
                    lowestMark = p;
                    return p;
                }
            }
            return NONE;
        }

        private void lookAt(int p) {
            comeToHandlers(p);
            if (bad != NONE) {
                return;
            }
            // Not before its handlers: one whose place is p itself changes what stands there.
            takeWhatStands(p);
            int op = image.at(p);
            fits = true;
            apply(op, p);
            boolean goesOn = op != GOTO && op != RETURN && op != GIVE && op != THROW;
            int next = p + SIZE[op];
            if (!fits || goesOn && next >= methods.code[method] + methods.length[method]) {
                bad = p;
                return;
            }
            if (goesOn) {
                come(next, height);
            }
            int jump = image.jumpPlace(p);
            if (jump != NONE && bad == NONE) {
                come(methods.code[method] + image.pair(jump), height);
            }
        }

        private void takeWhatStands(int p) {
            height = heights[p];
            for (int i = 0; i < locals + height; i++) {
                now[i] = types[p * PLACES + i];
            }
        }

        private void comeToHandlers(int p) {
            int place = p - methods.code[method];
            for (int i = 0; i < methods.handlers[method] && bad == NONE; i++) {
                int h = methods.handlerPlace[method] + i * HANDLER_BYTES;
                if (image.pair(h) <= place && place < image.pair(h + 2)) {
                    if (methods.stack[method] == 0) {
                        bad = p;
                        return;
                    }
                    takeWhatStands(p);
                    now[locals] = image.at(h + 4) + 1;
                    come(methods.code[method] + image.pair(h + 5), 1);
                }
            }
        }

        /** What now is, with a stack so high, comes to a place. */
        private void come(int p, int high) {
            boolean isNew = heights[p] == NONE;
            boolean changes = isNew;
            if (isNew) {
                heights[p] = (byte) high;
            } else if (heights[p] != high) {
                bad = p;
                return;
            }
            for (int i = 0; i < locals + high; i++) {
                int had = types[p * PLACES + i];
                int has = isNew ? now[i] : meet(had, now[i]);
                if (i >= locals && has == UNUSABLE) {
                    bad = p;
                    return;
                }
                changes = changes || has != had;
                types[p * PLACES + i] = (byte) has;
            }
            if (changes) {
                marked[p] = true;
                lowestMark = Math.min(lowestMark, p);
            }
        }

        private int meet(int a, int b) {
            if (a == b) {
                return a;
            }
            if (!isReference(a) || !isReference(b)) {
                return UNUSABLE;
            }
            if (a == NULL_TYPE) {
                return b;
            }
            if (b == NULL_TYPE) {
                return a;
            }
            int above = isClass(a) && isClass(b) ? classes.lowestAbove(a - 1, b - 1) : NONE;
            return above == NONE ? ANY : above + 1;
        }

        private static boolean isReference(int type) {
            return type != INT && type != UNUSABLE;
        }

        private static boolean isClass(int type) {
            return type >= 1 && type <= CLASSES_MOST;
        }

        private int take() {
            if (height == 0) {
                fits = false;
                return UNUSABLE;
            }
            height--;
            return now[locals + height];
        }

        /** Takes what goes into a type. */
        private void takeFor(int type) {
            int had = take();
            boolean below = isClass(had) && isClass(type) && classes.isOrBelow(had - 1, type - 1);
            boolean nothing = had == NULL_TYPE && type != INT && type != ANY;
            fits = fits && (had == type || nothing || below);
        }

        private void takeReference() {
            int had = take();
            fits = fits && had != INT;
        }

        private int takeRow() {
            int had = take();
            fits = fits && had >= ROWS && had <= NULL_TYPE;
            return had;
        }

        private void push(int type) {
            if (height >= methods.stack[method]) {
                fits = false;
                return;
            }
            now[locals + height] = type;
            height++;
        }

        private void apply(int op, int p) {
            if (op <= SWAP) {
                applyMove(op, image.at(p + 1));
            } else if (op <= NEG) {
                takeFor(INT);
                if (op != NEG) {
                    takeFor(INT);
                }
                push(INT);
            } else if (op <= GOTO) {
                applyJump(op);
            } else if (op <= CAST) {
                applyObject(op, image.at(p + 1), image.at(p + 2));
            } else if (op <= AT) {
                applyRow(op, image.at(p + 1));
            } else if (op == TO) {
                applyTo();
            } else if (op <= SEND) {
                int c = image.at(p + 1);
                applyCall(op == CALL ? c : classes.slot[c * SLOTS + image.at(p + 2)], op == CALL ? NONE : c);
            } else {
                applyEnd(op);
            }
        }

        private void applyMove(int op, int local) {
            switch (op) {
                case CONST:
                    push(INT);
                    break;
                case NULL:
                    push(NULL_TYPE);
                    break;
                case LOAD:
                    fits = now[local] != UNUSABLE;
                    push(now[local]);
                    break;
                case STORE:
                    now[local] = take();
                    break;
                case POP:
                    take();
                    break;
                case DUP:
                    int top = take();
                    push(top);
                    push(top);
                    break;
                default:
                    int upper = take();
                    int lower = take();
                    push(upper);
                    push(lower);
                    break;
            }
        }

        private void applyJump(int op) {
            switch (op) {
                case IF:
                    takeFor(INT);
                    break;
                case IFC:
                    takeFor(INT);
                    takeFor(INT);
                    break;
                case IFNULL:
                case IFSOME:
                    takeReference();
                    break;
                case IFSAME:
                case IFOTHER:
                    takeReference();
                    takeReference();
                    break;
                default:
                    break;
            }
        }

        private void applyObject(int op, int c, int field) {
            switch (op) {
                case NEW:
                    push(c + 1);
                    break;
                case GET:
                    takeFor(c + 1);
                    push(classes.fieldType[c * FIELDS_MOST + field]);
                    break;
                case PUT:
                    takeFor(classes.fieldType[c * FIELDS_MOST + field]);
                    takeFor(c + 1);
                    break;
                case IS:
                    takeReference();
                    push(INT);
                    break;
                default:
                    takeReference();
                    push(c + 1);
                    break;
            }
        }

        private void applyRow(int op, int item) {
            switch (op) {
                case ROW:
                    takeFor(INT);
                    push(ROWS + item);
                    break;
                case LENGTH:
                    takeRow();
                    push(INT);
                    break;
                default:
                    takeFor(INT);
                    int from = takeRow();
                    push(from == NULL_TYPE ? NULL_TYPE : from - ROWS);
                    break;
            }
        }

        /** The row lies below what is put into it, and tells what that must be. */
        private void applyTo() {
            int row = height >= 3 ? now[locals + height - 3] : UNUSABLE;
            if (row == NULL_TYPE) {
                take();
            } else {
                takeFor(row - ROWS);
            }
            takeFor(INT);
            takeRow();
        }

        private void applyCall(int m, int c) {
            for (int i = methods.params[m] - 1; i >= 0; i--) {
                takeFor(i == 0 && c != NONE ? c + 1 : methods.paramType[m * PARAMS_MOST + i]);
            }
            if (methods.gives[m] != NO_BYTE) {
                push(methods.gives[m]);
            }
        }

        private void applyEnd(int op) {
            switch (op) {
                case RETURN:
                    fits = methods.gives[method] == NO_BYTE;
                    break;
                case GIVE:
                    fits = methods.gives[method] != NO_BYTE;
                    takeFor(methods.gives[method]);
                    break;
                case THROW:
                    int thrown = take();
                    fits = fits && (isClass(thrown) || thrown == NULL_TYPE);
                    break;
                case IN:
                    push(INT);
                    break;
                default:
                    takeFor(INT);
                    break;
            }
        }
    }

    /** What comes in and goes out. */
    private static final class Ports {
        final int[] ins = new int[PORT_MOST];
        int inputs;
        int taken;
        final int[] outs = new int[PORT_MOST];
        long given;

        int add(int v) {
            if (inputs >= PORT_MOST) {
                return FULL;
            }
            ins[inputs] = v;
            inputs++;
            return inputs;
        }

        void rewind() {
            taken = 0;
            given = 0;
        }

        int take() {
            if (taken >= inputs) {
                return 0;
            }
            taken++;
            return ins[taken - 1];
        }

        void give(int v) {
            if (given < PORT_MOST) {
                outs[(int) given] = v;
            }
            given++;
        }
    }

    /**
     * Two halves of cells. A cycle moves what was reached as it began from one half into the other, some cells for
     * each cell that is made; a run holds on to nothing but moved and made cells, and what it overwrites is moved
     * before, so that in the end just what was reached has been moved.
     */
    private static final class Heap {
        /** What a cell is, told by its upper half; the lower one is an int, an address (0: nothing) or a head. */
        static final int NUMBER = 0;
        static final int REFERENCE = 1;
        static final int OBJECT = 2;
        static final int ITEMS = 3;
        static final int CHILD = 4;
        static final int FRAME = 5;
        static final int MOVED = 6;
        static final long NOTHING = 1L << 32;

        /** How many cells all but objects have. */
        static final int BLOCK = 16;
        /** The cells of a frame behind its head. */
        static final int PLACE = 1;
        static final int HEIGHT = 2;
        static final int CALLER = 3;
        static final int VALUES = 4;

        /** How many items a row without children has, and how many children one with children. */
        static final int ITEMS_EACH = 15;
        static final int ITEMS_MOST = ITEMS_EACH * ITEMS_EACH * ITEMS_EACH;

        private final Classes classes;
        private final Methods methods;
        /** Both halves, one behind the other, from address 1 on. */
        private long[] cells = new long[0];
        private int half;
        /** Where the half in use begins. */
        private int base;
        /** Moved cells lie from base to here; those below scanned lead to moved and made cells alone. */
        private int free;
        private int scanned;
        /** Made cells lie from here to the end of the half. */
        private int fresh;
        private int k;
        int limit;
        int made;
        int cycles;
        int top;
        int flies;
        boolean steady;
        private int looks;

        Heap(Classes classes, Methods methods) {
            this.classes = classes;
            this.methods = methods;
        }

        static int rowLength(long head) {
            return (int) head & 4095;
        }

        /** What the items of a row are: INT, or a class and 1 more. */
        static int rowItem(long head) {
            return (int) head >> 12;
        }

        /** How many items each cell of a row is for. */
        static int span(int length) {
            return length <= ITEMS_EACH ? 1 : length <= ITEMS_EACH * ITEMS_EACH ? ITEMS_EACH : ITEMS_EACH * ITEMS_EACH;
        }

        static long cell(int kind, int low) {
            return (long) kind << 32 | low & 0xFFFFFFFFL;
        }

        static int kind(long cell) {
            return (int) (cell >> 32);
        }

        void open(int h, int perMade) {
            half = 2 * h + 64;
            k = perMade;
            limit = h * k / (k + 1);
            if (cells.length < 2 * half + 1) {
                cells = new long[roomFor(2 * half + 1, cells.length)];
            }
            cycles = 0;
            top = 0;
            flies = 0;
            steady = true;
            useHalf(1);
        }

        private void useHalf(int from) {
            base = from;
            free = from;
            scanned = from;
            fresh = from + half;
            made = 0;
        }

        int moved() {
            return free - base;
        }

        boolean isDone() {
            return scanned == free && k * made >= moved();
        }

        void beginStep() {
            looks = 0;
        }

        void endStep() {
            steady = steady && looks <= 700 * k + 200;
        }

        /** A cell, looked at by no step. */
        long peek(int a) {
            return a > 0 && a < cells.length ? cells[a] : 0;
        }

        long look(int a) {
            looks++;
            return a > 0 && a < cells.length ? cells[a] : 0;
        }

        void put(int a, long cell) {
            looks++;
            if (a > 0 && a < cells.length) {
                cells[a] = cell;
            }
        }

        /** Whether a cell leads into the half that is being left. */
        private boolean leadsBack(long cell) {
            int a = (int) cell;
            return cell >> 32 == REFERENCE && a != 0 && (a < base || a >= base + half);
        }

        /** A cell whose value the run may hold on to: what it leads to is moved first. */
        long read(int a) {
            long cell = look(a);
            if (leadsBack(cell)) {
                cell = cell(REFERENCE, move((int) cell));
                put(a, cell);
            }
            return cell;
        }

        /** What the cell led to as the cycle began was reached then: it is moved before it is lost. */
        void change(int a, long cell) {
            read(a);
            put(a, cell);
        }

        /** Makes a frame lead into the half in use alone, as the top one must. */
        void settle(int frame) {
            for (int i = CALLER; i < BLOCK && scanned < free; i++) {
                read(frame + i);
            }
        }

        private int move(int a) {
            if (a < 1 || a >= cells.length) {
                return 0;
            }
            looks++;
            int kind = (int) (cells[a] >> 32);
            int low = (int) cells[a];
            if (kind == MOVED) {
                return low;
            }
            int size = kind == OBJECT ? 1 + classes.fields[low] : BLOCK;
            int to = free;
            if (a + size > cells.length || to + size > cells.length) {
                return 0;
            }
            // What was popped off a frame's stack is not reached by it.
            int live = kind == FRAME ? VALUES + methods.locals[low] + (int) cells[a + HEIGHT] : size;
            for (int i = 0; i < size; i++) {
                cells[to + i] = i < live ? cells[a + i] : 0;
            }
            cells[a] = (long) MOVED << 32 | to;
            looks += 2 * size + 1;
            free += size;
            return to;
        }

        /**
         * The address of so many new cells, or 0 when there is no room. A new cycle moves the top frame; nothing flies
         * then, for a step in which something does makes no cells.
         */
        int make(int n) {
            if (isDone()) {
                if (moved() > limit) {
                    return 0;
                }
                if (moved() + made + n > limit) {
                    useHalf(base == 1 ? 1 + half : 1);
                    cycles++;
                    top = move(top);
                    settle(top);
                }
            }
            made += n;
            moveOn();
            fresh -= n;
            return fresh;
        }

        /**
         * Each reached cell is moved once and scanned once: with k of both for each cell that was made, all is moved
         * and scanned as soon as k * made is what was reached.
         */
        private void moveOn() {
            int goal = 2 * k * made;
            for (int i = 0; i < goal && scanned < free && moved() + scanned - base < goal; i++) {
                read(scanned);
                scanned++;
            }
        }
    }

    /** Does the steps of a run. */
    private static final class Runner {
        /** How an instruction ended, when no fault (0 .. 4) did it: at the next place, in itself, or without room. */
        private static final int DONE = -1;
        private static final int AWAY = -2;
        private static final int STUCK = -3;

        private static final int OF_NOTHING = 0;
        private static final int NO_ITEM = 1;
        private static final int BY_ZERO = 2;
        private static final int OTHER_CLASS = 3;
        private static final int NO_LENGTH = 4;

        private final Image image;
        private final Classes classes;
        private final Methods methods;
        private final Heap heap;
        private final Ports ports;
        int state;
        int frames;
        long steps;
        /** Of the top frame, while an instruction of it is done; what of it changes is saved at its end. */
        private int method;
        private int place;
        private int next;
        private int height;
        /** How many items the child has that find() did not find; 0 when it found the item. */
        private int lacking;

        Runner(Image image, Heap heap, Ports ports) {
            this.image = image;
            this.classes = image.classes;
            this.methods = image.methods;
            this.heap = heap;
            this.ports = ports;
        }

        void begin() {
            state = GOES_ON;
            frames = 0;
            steps = 0;
            height = 0;
            enter(methods.first);
        }

        /** False when there was no room for the step. */
        boolean step() {
            heap.beginStep();
            int outcome = AWAY;
            if (heap.flies != 0) {
                fly();
            } else {
                loadTop();
                int op = operand(0);
                next = place + SIZE[op];
                if (op <= SWAP) {
                    outcome = moveValues(op);
                } else if (op <= NEG) {
                    outcome = reckon(op);
                } else if (op <= GOTO) {
                    outcome = jump(op);
                } else if (op <= CAST) {
                    outcome = useObject(op);
                } else if (op <= TO) {
                    outcome = useRow(op);
                } else if (op <= SEND) {
                    outcome = op == CALL ? enter(operand(1)) : send();
                } else {
                    outcome = leaveOrPort(op);
                }
                if (outcome == DONE) {
                    heap.put(heap.top + Heap.PLACE, next);
                    heap.put(heap.top + Heap.HEIGHT, height);
                } else if (outcome >= 0) {
                    outcome = raise(outcome);
                }
            }
            heap.endStep();
            if (outcome == STUCK) {
                state = NO_ROOM;
                return false;
            }
            steps++;
            return true;
        }

        private void loadTop() {
            method = (int) heap.look(heap.top);
            place = (int) heap.look(heap.top + Heap.PLACE);
            height = (int) heap.look(heap.top + Heap.HEIGHT);
        }

        private int operand(int i) {
            return image.at(methods.code[method] + place + i);
        }

        /** The cell of a place of the top frame's stack. */
        private int slot(int i) {
            return heap.top + Heap.VALUES + methods.locals[method] + i;
        }

        private long pop() {
            height--;
            return heap.look(slot(height));
        }

        /** The value so far below the top of the stack. */
        private long below(int depth) {
            return heap.look(slot(height - 1 - depth));
        }

        private int push(long cell) {
            heap.put(slot(height), cell);
            height++;
            return DONE;
        }

        private int pushInt(int v) {
            return push(Heap.cell(Heap.NUMBER, v));
        }

        private int moveValues(int op) {
            int local = heap.top + Heap.VALUES + operand(1);
            switch (op) {
                case CONST:
                    return pushInt(image.four(methods.code[method] + place + 1));
                case NULL:
                    return push(Heap.NOTHING);
                case LOAD:
                    return push(heap.look(local));
                case STORE:
                    heap.put(local, pop());
                    return DONE;
                case POP:
                    height--;
                    return DONE;
                case DUP:
                    return push(below(0));
                default:
                    long upper = pop();
                    long lower = pop();
                    push(upper);
                    return push(lower);
            }
        }

        private int reckon(int op) {
            int right = (int) below(0);
            if (op == NEG) {
                height--;
                return pushInt(-right);
            }
            if ((op == DIV || op == REM) && right == 0) {
                return BY_ZERO;
            }
            int left = (int) below(1);
            height -= 2;
            return pushInt(op == DIV ? left / right : op == REM ? left % right : combine(op, left, right));
        }

        private static int combine(int op, int left, int right) {
            switch (op) {
                case ADD:
                    return left + right;
                case SUB:
                    return left - right;
                case MUL:
                    return left * right;
                case AND:
                    return left & right;
                case OR:
                    return left | right;
                case XOR:
                    return left ^ right;
                case SHL:
                    return left << right;
                case SHR:
                    return left >> right;
                default:
                    return left >>> right;
            }
        }

        private int jump(int op) {
            boolean jumps;
            switch (op) {
                case IF:
                    jumps = holds(operand(1), (int) pop(), 0);
                    break;
                case IFC:
                    int right = (int) pop();
                    jumps = holds(operand(1), (int) pop(), right);
                    break;
                case IFNULL:
                    jumps = pop() == Heap.NOTHING;
                    break;
                case IFSOME:
                    jumps = pop() != Heap.NOTHING;
                    break;
                case IFSAME:
                    jumps = pop() == pop();
                    break;
                case IFOTHER:
                    jumps = pop() != pop();
                    break;
                default:
                    jumps = true;
                    break;
            }
            if (jumps) {
                next = image.pair(image.jumpPlace(methods.code[method] + place));
            }
            return DONE;
        }

        private static boolean holds(int question, int left, int right) {
            switch (question) {
                case 0:
                    return left == right;
                case 1:
                    return left != right;
                case 2:
                    return left < right;
                case 3:
                    return left >= right;
                case 4:
                    return left > right;
                default:
                    return left <= right;
            }
        }

        private int useObject(int op) {
            if (op == NEW) {
                int made = makeObject(operand(1));
                return made == 0 ? STUCK : push(Heap.cell(Heap.REFERENCE, made));
            }
            int object = (int) below(op == PUT ? 1 : 0);
            int field = object + 1 + operand(2);
            switch (op) {
                case GET:
                    if (object == 0) {
                        return OF_NOTHING;
                    }
                    height--;
                    return push(heap.read(field));
                case PUT:
                    if (object == 0) {
                        return OF_NOTHING;
                    }
                    heap.change(field, pop());
                    height--;
                    return DONE;
                case IS:
                    height--;
                    return pushInt(isA(object, operand(1)) ? 1 : 0);
                default:
                    return object == 0 || isA(object, operand(1)) ? DONE : OTHER_CLASS;
            }
        }

        private boolean isA(int object, int c) {
            long head = object == 0 ? 0 : heap.look(object);
            return Heap.kind(head) == Heap.OBJECT && classes.isOrBelow((int) head, c);
        }

        private int makeObject(int c) {
            int fields = classes.fields[c];
            int made = heap.make(1 + fields);
            if (made != 0) {
                heap.put(made, Heap.cell(Heap.OBJECT, c));
                for (int i = 0; i < fields; i++) {
                    boolean isInt = classes.fieldType[c * FIELDS_MOST + i] == INT;
                    heap.put(made + 1 + i, isInt ? 0 : Heap.NOTHING);
                }
            }
            return made;
        }

        private int raise(int fault) {
            int made = makeObject(classes.thrown[fault]);
            heap.flies = made;
            return made == 0 ? STUCK : AWAY;
        }

        private int useRow(int op) {
            if (op == ROW) {
                return makeRow(operand(1), (int) below(0));
            }
            int depth = op == LENGTH ? 0 : op == AT ? 1 : 2;
            int row = (int) below(depth);
            if (row == 0) {
                return OF_NOTHING;
            }
            int length = Heap.rowLength(heap.look(row));
            if (op == LENGTH) {
                height--;
                return pushInt(length);
            }
            int index = (int) below(depth - 1);
            if (index < 0 || index >= length) {
                return NO_ITEM;
            }
            return op == AT ? fetch(row, index) : store(row, index);
        }

        private int makeRow(int item, int length) {
            if (length < 0 || length > Heap.ITEMS_MOST) {
                return NO_LENGTH;
            }
            int row = heap.make(Heap.BLOCK);
            if (row == 0) {
                return STUCK;
            }
            boolean hasInts = item == INT && Heap.span(length) == 1;
            fill(row, Heap.cell(Heap.ITEMS, item << 12 | length), hasInts ? 0 : Heap.NOTHING);
            height--;
            return push(Heap.cell(Heap.REFERENCE, row));
        }

        private void fill(int block, long head, long with) {
            heap.put(block, head);
            for (int i = 1; i < Heap.BLOCK; i++) {
                heap.put(block + i, with);
            }
        }

        /** The cell of an item, or that of the first child on the way to it that is not there. */
        private int find(int row, int index) {
            int at = row;
            int rest = index;
            lacking = 0;
            for (int span = Heap.span(Heap.rowLength(heap.look(row))); span > 1; span /= Heap.ITEMS_EACH) {
                int cell = at + 1 + rest / span;
                at = (int) heap.read(cell);
                if (at == 0) {
                    lacking = span;
                    return cell;
                }
                rest %= span;
            }
            return at + 1 + rest;
        }

        private int fetch(int row, int index) {
            int cell = find(row, index);
            long none = Heap.rowItem(heap.look(row)) == INT ? 0 : Heap.NOTHING;
            height -= 2;
            return push(lacking == 0 ? heap.read(cell) : none);
        }

        private int store(int row, int index) {
            int cell = find(row, index);
            if (lacking == 0) {
                heap.change(cell, pop());
                height -= 2;
                return DONE;
            }
            int child = heap.make(Heap.BLOCK);
            if (child == 0) {
                return STUCK;
            }
            // A new cycle moves the row.
            int at = (int) below(2);
            boolean hasInts = lacking == Heap.ITEMS_EACH && Heap.rowItem(heap.look(at)) == INT;
            fill(child, Heap.cell(Heap.CHILD, 0), hasInts ? 0 : Heap.NOTHING);
            heap.put(find(at, index), Heap.cell(Heap.REFERENCE, child));
            return AWAY;
        }

        private int send() {
            int slot = operand(2);
            int told = classes.slot[operand(1) * SLOTS + slot];
            int object = (int) below(methods.params[told] - 1);
            if (object == 0) {
                return OF_NOTHING;
            }
            return enter(classes.slot[(int) heap.look(object) * SLOTS + slot]);
        }

        /** A new frame on top, with what it takes off the stack of the one below. */
        private int enter(int m) {
            int frame = heap.make(Heap.BLOCK);
            if (frame == 0) {
                return STUCK;
            }
            int rest = height - methods.params[m];
            heap.put(frame, Heap.cell(Heap.FRAME, m));
            heap.put(frame + Heap.PLACE, 0);
            heap.put(frame + Heap.HEIGHT, 0);
            heap.put(frame + Heap.CALLER, Heap.cell(Heap.REFERENCE, heap.top));
            for (int i = 0; i < PLACES; i++) {
                heap.put(frame + Heap.VALUES + i, i < methods.params[m] ? heap.look(slot(rest + i)) : 0);
            }
            if (heap.top != 0) {
                heap.put(heap.top + Heap.HEIGHT, rest);
            }
            heap.top = frame;
            frames++;
            return AWAY;
        }

        private int leaveOrPort(int op) {
            switch (op) {
                case RETURN:
                    giveBack(false, 0);
                    return AWAY;
                case GIVE:
                    giveBack(true, below(0));
                    return AWAY;
                case THROW:
                    heap.flies = (int) below(0);
                    return heap.flies == 0 ? OF_NOTHING : AWAY;
                case IN:
                    return pushInt(ports.take());
                default:
                    ports.give((int) pop());
                    return DONE;
            }
        }

        private void giveBack(boolean gives, long cell) {
            if (!leaveTop()) {
                state = RETURNED;
                return;
            }
            loadTop();
            if (gives) {
                push(cell);
            }
            heap.put(heap.top + Heap.PLACE, place + SIZE[operand(0)]);
            heap.put(heap.top + Heap.HEIGHT, height);
        }

        /** False when it was the first frame. */
        private boolean leaveTop() {
            heap.top = (int) heap.look(heap.top + Heap.CALLER);
            frames--;
            if (heap.top == 0) {
                return false;
            }
            heap.settle(heap.top);
            return true;
        }

        private void fly() {
            loadTop();
            int c = (int) heap.look(heap.flies);
            for (int i = 0; i < methods.handlers[method]; i++) {
                int p = methods.handlerPlace[method] + i * HANDLER_BYTES;
                boolean covers = image.pair(p) <= place && place < image.pair(p + 2);
                if (covers && classes.isOrBelow(c, image.at(p + 4))) {
                    heap.put(slot(0), Heap.cell(Heap.REFERENCE, heap.flies));
                    heap.put(heap.top + Heap.PLACE, image.pair(p + 5));
                    heap.put(heap.top + Heap.HEIGHT, 1);
                    heap.flies = 0;
                    return;
                }
            }
            if (!leaveTop()) {
                state = UNCAUGHT;
            }
        }
    }

    /** Looks at a run from outside, without a step and without changing anything. */
    private static final class View {
        private static final int PARTS_MOST = 6;
        private static final int PART_BITS = 12;

        private final Classes classes;
        private final Methods methods;
        private final Heap heap;

        View(Image image, Heap heap) {
            this.classes = image.classes;
            this.methods = image.methods;
            this.heap = heap;
        }

        /** Where a cell leads to: to where it was moved, if it was. */
        private int target(long cell) {
            int a = (int) cell;
            long head = heap.peek(a);
            return Heap.kind(head) == Heap.MOVED ? (int) head : a;
        }

        int frameAt(int f) {
            int at = f < 0 ? 0 : heap.top;
            for (int i = 0; i < f && at != 0; i++) {
                at = target(heap.peek(at + Heap.CALLER));
            }
            return at;
        }

        int ofFrame(int frame, int what) {
            int method = (int) heap.peek(frame);
            switch (what) {
                case 0:
                    return method;
                case 1:
                    return (int) heap.peek(frame + Heap.PLACE);
                case 2:
                    return (int) heap.peek(frame + Heap.HEIGHT);
                case 3:
                    return methods.locals[method];
                default:
                    return NONE;
            }
        }

        /** The cell of value k of a frame, or NONE. */
        long ofPlace(int frame, int k) {
            boolean there = frame != 0 && k >= 0 && k < ofFrame(frame, 3) + ofFrame(frame, 2);
            return there ? heap.peek(frame + Heap.VALUES + k) : NONE;
        }

        long flying(int k) {
            return k == 0 && heap.flies != 0 ? Heap.cell(Heap.REFERENCE, heap.flies) : NONE;
        }

        long along(long cell, long path) {
            long at = cell;
            long rest = path;
            for (int i = 0; i < PARTS_MOST && rest != 0; i++) {
                int part = (int) (rest & (1 << PART_BITS) - 1);
                if (part == 0) {
                    return at;
                }
                at = part(at, part - 1);
                rest >>>= PART_BITS;
            }
            return at;
        }

        private long part(long cell, int i) {
            if (Heap.kind(cell) != Heap.REFERENCE || cell == Heap.NOTHING) {
                return NONE;
            }
            int at = target(cell);
            long head = heap.peek(at);
            if (Heap.kind(head) == Heap.OBJECT) {
                return i < classes.fields[(int) head] ? heap.peek(at + 1 + i) : NONE;
            }
            return i < Heap.rowLength(head) ? item(at, head, i) : NONE;
        }

        private long item(int row, long head, int index) {
            int at = row;
            int rest = index;
            for (int span = Heap.span(Heap.rowLength(head)); span > 1; span /= Heap.ITEMS_EACH) {
                at = target(heap.peek(at + 1 + rest / span));
                if (at == 0) {
                    return Heap.rowItem(head) == INT ? 0 : Heap.NOTHING;
                }
                rest %= span;
            }
            return heap.peek(at + 1 + rest);
        }

        long ask(long cell, int what) {
            if (cell == NONE) {
                return NONE;
            }
            if (Heap.kind(cell) == Heap.NUMBER) {
                return what == 1 ? (int) cell : 0;
            }
            if (cell == Heap.NOTHING) {
                return what == 0 ? 1 : 0;
            }
            long head = heap.peek(target(cell));
            if (Heap.kind(head) == Heap.OBJECT) {
                return what == 0 ? 2 : what == 1 ? (int) head : classes.fields[(int) head];
            }
            int kind = Heap.rowItem(head) == INT ? 3 : 4;
            return what == 0 ? kind : what == 1 ? Heap.rowLength(head) : 0;
        }

        boolean alike(long cell, long other) {
            boolean references = Heap.kind(cell) == Heap.REFERENCE && Heap.kind(other) == Heap.REFERENCE;
            return references && target(cell) == target(other);
        }
    }
}
