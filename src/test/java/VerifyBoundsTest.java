import java.util.Arrays;

/**
 * 'Terms', VERIFYING, WHAT STANDS, COMING and INSTRUCTIONS, and promise 16: a stack too low or too high, what goes
 * into what by just so much, handlers at the ends of what they cover, and questions for what is none.
 */
public final class VerifyBoundsTest {
    private static final Due DUE = new Due();
    /** Class 1 is below 0, class 2 below 1, class 3 alone; types are 1 more. */
    private static final int A = 1, B = 2, C = 3, D = 4, INTS = 64, ROW_A = 65, ROW_B = 66;
    private static final int[] ALL = {Op.INT, A, B, C, D, INTS, ROW_A, ROW_B, Op.NULL_TYPE, Op.ANY};
    private static int names;

    public static void main(String[] args) {
        neededPlaces();
        neededPlacesWithoutLocals();
        placesTooMany();
        placesEnough();
        wholeStack();
        calls();
        given();
        goesInto();
        lastClass();
        fieldsOfAllAbove();
        referencesOrInts();
        unusableLocals();
        noNextInstruction();
        handlersWithoutPlace();
        handlersFromAndTo();
        handlersByNumbers();
        handlersAsItStands();
        comingHeights();
        comingStacks();
        comingChanges();
        firstBadMethod();
        standsOfMethods();
        standsOfPlaces();
        standsOfLocalsAndStack();
        DUE.finish();
    }

    private static Maker kinds() {
        return new Maker().kind(255, Maker.types(Op.INT, A, INTS, ROW_A), 2, 1).kind(0, Maker.types())
            .kind(1, Maker.types()).kind(255, Maker.types());
    }

    /** Method 1 is in slot 2 of class 0; 2 takes nothing and gives an int; 3 takes and gives nothing; 4 takes seven. */
    private static Maker others(Maker maker) {
        return maker.method(0, Maker.types(Op.INT), B, 2, 1, new Code().op(Op.NULL, Op.GIVE))
            .method(255, Maker.types(), Op.INT, 0, 1, new Code().op(Op.IN, Op.GIVE))
            .method(255, Maker.types(), 255, 0, 0, new Code().op(Op.RETURN))
            .method(255, Maker.types(0, 0, 0, 0, 0, 0, A), A, 7, 1, new Code().op(Op.LOAD, 6, Op.GIVE));
    }

    private static Maker world(int locals, int stack, Code code) {
        return others(kinds().method(locals, stack, code));
    }

    private static Code give(Code code, int type) {
        if (type == Op.INT) {
            return code.op(Op.IN);
        }
        if (type == Op.NULL_TYPE) {
            return code.op(Op.NULL);
        }
        if (type == Op.ANY) {
            String other = "other" + names++;
            String both = "both" + names++;
            return code.op(Op.IN).jumpIf(Op.IF, Op.EQ, other).op(Op.NEW, 0).jump(Op.GOTO, both).mark(other)
                .op(Op.NEW, 3).mark(both);
        }
        return type >= Op.ROWS ? code.op(Op.IN, Op.ROW, type - Op.ROWS) : code.op(Op.NEW, type - 1);
    }

    private static Code with(int... types) {
        Code code = new Code();
        for (int type : types) {
            give(code, type);
        }
        return code;
    }

    private static int[] op(int... bytes) {
        return bytes;
    }

    /** An instruction, then what it needs on the stack, and 1 when it puts something there. */
    private static final int[][][] INSTRUCTIONS = {
        {op(Op.CONST, 0, 0, 0, 0), op(), op(1)}, {op(Op.NULL), op(), op(1)}, {op(Op.LOAD, 0), op(), op(1)},
        {op(Op.STORE, 0), op(A), op(0)}, {op(Op.POP), op(A), op(0)}, {op(Op.DUP), op(A), op(2)},
        {op(Op.SWAP), op(A, Op.INT), op(2)}, {op(Op.NEG), op(Op.INT), op(1)},
        {op(Op.IF, 0, 0, 0), op(Op.INT), op(0)}, {op(Op.IFC, 0, 0, 0), op(Op.INT, Op.INT), op(0)},
        {op(Op.IFNULL, 0, 0), op(A), op(0)}, {op(Op.IFSOME, 0, 0), op(A), op(0)},
        {op(Op.IFSAME, 0, 0), op(A, D), op(0)}, {op(Op.IFOTHER, 0, 0), op(A, D), op(0)},
        {op(Op.GOTO, 0, 0), op(), op(0)}, {op(Op.NEW, 0), op(), op(1)}, {op(Op.GET, 0, 0), op(A), op(1)},
        {op(Op.PUT, 0, 0), op(A, Op.INT), op(0)}, {op(Op.IS, 0), op(A), op(1)}, {op(Op.CAST, 0), op(A), op(1)},
        {op(Op.ROW, 0), op(Op.INT), op(1)}, {op(Op.LENGTH), op(INTS), op(1)},
        {op(Op.AT), op(INTS, Op.INT), op(1)}, {op(Op.TO), op(INTS, Op.INT, Op.INT), op(0)},
        {op(Op.TO), op(ROW_A, Op.INT, A), op(0)}, {op(Op.TO), op(Op.NULL_TYPE, Op.INT, A), op(0)},
        {op(Op.CALL, 1), op(A, Op.INT), op(1)}, {op(Op.CALL, 2), op(), op(1)}, {op(Op.CALL, 3), op(), op(0)},
        {op(Op.CALL, 4), op(0, 0, 0, 0, 0, 0, A), op(1)}, {op(Op.SEND, 0, 2), op(A, Op.INT), op(1)},
        {op(Op.RETURN), op(), op(0)}, {op(Op.THROW), op(A), op(0)}, {op(Op.IN), op(), op(1)},
        {op(Op.OUT), op(Op.INT), op(0)}};

    /** Local 0 is an int; then what is on the stack, the instruction (a jump leads to an empty stack), and RETURN. */
    private static Code behind(int[] types, int[] op) {
        Code code = new Code().op(Op.IN, Op.STORE, 0).mark("empty");
        for (int type : types) {
            give(code, type);
        }
        code.mark("op");
        if (op[0] == Op.IF || op[0] == Op.IFC) {
            code.jumpIf(op[0], op[1], "empty");
        } else if (op[0] >= Op.IFNULL && op[0] <= Op.GOTO) {
            code.jump(op[0], "empty");
        } else {
            code.op(op);
        }
        return code.op(Op.RETURN);
    }

    private static int answer(int stack, int[] types, int[] op) {
        return world(1, stack, behind(types, op)).load(new SteadyMachine());
    }

    private static int badAt(int[] types, int[] op) {
        Code code = behind(types, op);
        return -10003 - world(1, 4, code).codePlace(0) - code.placeOf("op");
    }

    private static void fits(String what, int stack, int[] types, int[] op) {
        DUE.due(what, answer(stack, types, op) > 0, true);
    }

    private static void bad(String what, int stack, int[] types, int[] op) {
        DUE.due(what, answer(stack, types, op), badAt(types, op));
    }

    /** What they need on the stack: one place less is bad. */
    private static void neededPlaces() {
        for (int[][] one : INSTRUCTIONS) {
            fits(one[0][0] + " with its needs", 11, one[1], one[0]);
            for (int less = 1; less <= one[1].length; less++) {
                bad(one[0][0] + " with " + less + " less", 11, Arrays.copyOfRange(one[1], less, one[1].length), one[0]);
            }
        }
        for (int op = Op.ADD; op <= Op.USHR; op++) {
            fits(op + " with its needs", 11, op(Op.INT, Op.INT), op(op));
            bad(op + " with one int", 11, op(Op.INT), op(op));
            bad(op + " with none", 11, op(), op(op));
        }
    }

    private static void neededPlacesWithoutLocals() {
        for (int[][] one : INSTRUCTIONS) {
            for (int less = 1; less <= one[1].length && one[0][0] != Op.STORE; less++) {
                Code code = with(Arrays.copyOfRange(one[1], less, one[1].length)).mark("op").op(one[0]).op(Op.RETURN);
                Maker maker = world(0, 11, code);
                DUE.due(one[0][0] + " without locals, with " + less + " less", maker.load(new SteadyMachine()),
                    -10003 - maker.codePlace(0) - code.placeOf("op"));
            }
        }
    }

    /** And put there: a place too many is bad. */
    private static void placesTooMany() {
        for (int[][] one : INSTRUCTIONS) {
            int grows = one[2][0] - one[1].length;
            if (grows > 0) {
                int needs = Math.max(1, one[1].length);
                int[] full = new int[needs - one[1].length];
                int[] types = Arrays.copyOf(full, needs);
                System.arraycopy(one[1], 0, types, full.length, one[1].length);
                fits(one[0][0] + " on a stack with one place more", needs + 1, types, one[0]);
                bad(one[0][0] + " on a full stack", needs, types, one[0]);
            }
        }
        Maker none = world(0, 0, new Code().op(Op.IN, Op.RETURN));
        DUE.due("IN without a stack", none.load(new SteadyMachine()), -10003 - none.codePlace(0));
    }

    /** What does not put more than it needs has places enough on a full stack. */
    private static void placesEnough() {
        for (int[][] one : INSTRUCTIONS) {
            if (one[2][0] <= one[1].length) {
                fits(one[0][0] + " on a full stack", Math.max(1, one[1].length), one[1], one[0]);
            }
        }
    }

    /** Without locals a stack has up to twelve places. */
    private static void wholeStack() {
        for (int high : new int[] {12, 13}) {
            Code code = new Code();
            for (int i = 0; i < high; i++) {
                code.op(Op.IN);
            }
            Maker maker = world(0, 12, code.op(Op.RETURN));
            SteadyMachine x = new SteadyMachine();
            int answer = maker.load(x);
            DUE.due(high + " ints", answer > 0 ? 0 : answer, high == 12 ? 0 : -10003 - maker.codePlace(0) - 12);
            DUE.due(high + " ints: what stands", x.stands(0, 12, 0, 0), high == 12 ? 12 : -1);
            DUE.due(high + " ints: the last", x.stands(0, 12, 2, 11), high == 12 ? 0 : -1);
        }
    }

    /** CALL: what goes into the method's parameters; SEND: into the class and the parameters behind the first. */
    private static void calls() {
        for (int type : ALL) {
            boolean first = type == A || type == B || type == C || type == Op.NULL_TYPE;
            fitsOrNot("CALL, of " + type, first, op(type, Op.INT), op(Op.CALL, 1));
            fitsOrNot("SEND, of " + type, first, op(type, Op.INT), op(Op.SEND, 0, 2));
            boolean below = type == C || type == Op.NULL_TYPE;
            fitsOrNot("SEND to class 2, of " + type, below, op(type, Op.INT), op(Op.SEND, 2, 2));
            fitsOrNot("CALL with " + type, type == Op.INT, op(A, type), op(Op.CALL, 1));
            fitsOrNot("SEND with " + type, type == Op.INT, op(A, type), op(Op.SEND, 0, 2));
            fitsOrNot("CALL with seventh " + type, first, op(0, 0, 0, 0, 0, 0, type), op(Op.CALL, 4));
            fitsOrNot("CALL with first " + type, type == Op.INT, op(type, 0, 0, 0, 0, 0, A), op(Op.CALL, 4));
        }
    }

    private static void fitsOrNot(String what, boolean fits, int[] types, int[] op) {
        if (fits) {
            fits(what + " fits", 11, types, op);
        } else {
            bad(what + " is bad", 11, types, op);
        }
    }

    /** GIVE: what goes into the type that the method gives; RETURN: it gives nothing. */
    private static void given() {
        for (int gives : new int[] {255, Op.INT, A, C, INTS, ROW_A}) {
            for (int type : ALL) {
                Code code = with(type).mark("op").op(Op.GIVE);
                Maker maker = world(0, 0, new Code().op(Op.RETURN)).method(255, Maker.types(), gives, 0, 2, code);
                int answer = maker.load(new SteadyMachine());
                int due = gives != 255 && goesInto(type, gives) ? 1
                    : -10003 - maker.codePlace(5) - code.placeOf("op");
                DUE.due("GIVE of " + type + " as " + gives, answer > 0 ? 1 : answer, due);
            }
            Maker maker = world(0, 0, new Code().op(Op.RETURN)).method(255, Maker.types(), gives, 0, 2,
                new Code().op(Op.RETURN));
            int answer = maker.load(new SteadyMachine());
            DUE.due("RETURN of " + gives, answer > 0 ? 1 : answer, gives == 255 ? 1 : -10003 - maker.codePlace(5));
        }
    }

    /** The same; NULL into each reference but ANY; a class into one above it. Nothing else. */
    private static boolean goesInto(int type, int other) {
        boolean below = type == B && other == A || type == C && (other == A || other == B);
        return type == other || type == Op.NULL_TYPE && other != Op.INT || below;
    }

    private static void goesInto() {
        int[] fields = {Op.INT, A, INTS, ROW_A};
        for (int type : ALL) {
            for (int f = 0; f < fields.length; f++) {
                fitsOrNot("PUT of " + type + " into field " + f, goesInto(type, fields[f]), op(A, type),
                    op(Op.PUT, 0, f));
            }
            for (int c = 0; c < 3; c++) {
                fitsOrNot("GET of " + type + " as " + c, goesInto(type, c + 1), op(type), op(Op.GET, c, 3));
                fitsOrNot("PUT to " + type + " as " + c, goesInto(type, c + 1), op(type, 0), op(Op.PUT, c, 0));
            }
            fitsOrNot("TO of " + type + " into ints", type == Op.INT, op(INTS, 0, type), op(Op.TO));
            fitsOrNot("TO of " + type + " into a row of A", goesInto(type, A), op(ROW_A, 0, type), op(Op.TO));
            fitsOrNot("TO of " + type + " into a row of B", goesInto(type, B), op(ROW_B, 0, type), op(Op.TO));
            fitsOrNot("TO of " + type + " into NULL", true, op(Op.NULL_TYPE, 0, type), op(Op.TO));
        }
    }

    /** The last of 32 classes is a class as the others are: each is below the one before it, but class 16. */
    private static void lastClass() {
        for (int c = 0; c < 32; c++) {
            boolean above = c >= 16;
            lastFits("GET as " + c, above, new Code().op(Op.NEW, 31).mark("op").op(Op.GET, c, 0, Op.RETURN));
            lastFits("PUT of it into " + c, above, new Code().op(Op.NEW, c, Op.NEW, 31).mark("op")
                .op(Op.PUT, c, 0, Op.RETURN));
            lastFits("GET of " + c + " as it", c == 31, new Code().op(Op.NEW, c).mark("op")
                .op(Op.GET, 31, 0, Op.RETURN));
            Code both = new Code().op(Op.IN).jumpIf(Op.IF, Op.EQ, "b").op(Op.NEW, c).jump(Op.GOTO, "c").mark("b")
                .op(Op.NEW, 31).mark("c").op(Op.RETURN);
            SteadyMachine x = new SteadyMachine();
            many(both).load(x);
            DUE.due("it and " + c + " meet", x.stands(0, both.placeOf("c"), 2, 0), above ? c + 1 : Op.ANY);
        }
        lastFits("THROW of it", true, new Code().op(Op.NEW, 31).mark("op").op(Op.THROW));
        lastFits("a row of it", true, new Code().op(Op.IN, Op.ROW, 32, Op.IN, Op.NEW, 31).mark("op")
            .op(Op.TO, Op.RETURN));
        lastFits("a row of it, with another one", false, new Code().op(Op.IN, Op.ROW, 32, Op.IN, Op.NEW, 30).mark("op")
            .op(Op.TO, Op.RETURN));
        lastFits("a row of another one, with it", true, new Code().op(Op.IN, Op.ROW, 17, Op.IN, Op.NEW, 31).mark("op")
            .op(Op.TO, Op.RETURN));
    }

    /** Classes 0 .. 15 and 16 .. 31, each below the one before; field 0 is of class 0 or 16. */
    private static Maker many(Code code) {
        Maker maker = new Maker();
        for (int c = 0; c < 32; c++) {
            boolean alone = c % 16 == 0;
            maker.kind(alone ? 255 : c - 1, alone ? Maker.types(c + 1) : Maker.types());
        }
        return maker.method(0, 3, code);
    }

    private static void lastFits(String what, boolean fits, Code code) {
        Maker maker = many(code);
        int answer = maker.load(new SteadyMachine());
        DUE.due("the last class: " + what, answer > 0 ? 1 : answer,
            fits ? 1 : -10003 - maker.codePlace(0) - code.placeOf("op"));
    }

    /** Fields are those of the upper class, then its own: each has the type that it has above. */
    private static void fieldsOfAllAbove() {
        int[] types = {Op.INT, A, B, C, INTS, ROW_A, ROW_B, 67, Op.INT, C, B, A, ROW_B, INTS, A};
        for (int above = 0; above <= 15; above++) {
            for (int f = 0; f < 15; f++) {
                Code code = new Code().op(Op.NEW, 2, Op.GET, 2, f).mark("behind").op(Op.RETURN);
                Maker maker = new Maker().kind(255, Maker.types()).kind(255, Arrays.copyOf(types, above))
                    .kind(1, Arrays.copyOfRange(types, above, 15)).method(0, 1, code);
                SteadyMachine x = new SteadyMachine();
                DUE.due("fields above: " + above, maker.load(x), 3);
                DUE.due("field " + f + " of " + above + " above", x.stands(0, code.placeOf("behind"), 2, 0), types[f]);
                x.start(0, 0);
                x.run(1);
                DUE.due("a new field " + f, x.value(0, 0, f + 1, 0), types[f] == Op.INT ? 0 : 1);
            }
        }
    }

    /** All but 0 and 99 are references; THROW: a class or NULL; LENGTH, AT, TO: a row or NULL. */
    private static void referencesOrInts() {
        for (int type : ALL) {
            boolean reference = type != Op.INT;
            boolean row = type == INTS || type == ROW_A || type == ROW_B || type == Op.NULL_TYPE;
            boolean thrown = type >= A && type <= D || type == Op.NULL_TYPE;
            for (int op : new int[] {Op.IFNULL, Op.IFSOME}) {
                fitsOrNot(op + " of " + type, reference, op(type), op(op, 0, 0));
            }
            for (int op : new int[] {Op.IFSAME, Op.IFOTHER}) {
                fitsOrNot(op + " of " + type + " on top", reference, op(A, type), op(op, 0, 0));
                fitsOrNot(op + " of " + type + " below", reference, op(type, A), op(op, 0, 0));
            }
            fitsOrNot("IS of " + type, reference, op(type), op(Op.IS, 3));
            fitsOrNot("CAST of " + type, reference, op(type), op(Op.CAST, 3));
            fitsOrNot("THROW of " + type, thrown, op(type), op(Op.THROW));
            fitsOrNot("LENGTH of " + type, row, op(type), op(Op.LENGTH));
            fitsOrNot("AT of " + type, row, op(type, Op.INT), op(Op.AT));
            fitsOrNot("AT at " + type, !reference, op(INTS, type), op(Op.AT));
            fitsOrNot("TO of NULL in " + type, row && type != INTS, op(type, 0, Op.NULL_TYPE), op(Op.TO));
            fitsOrNot("TO at " + type, !reference, op(INTS, type, 0), op(Op.TO));
            fitsOrNot("ROW of " + type, !reference, op(type), op(Op.ROW, 4));
            fitsOrNot("OUT of " + type, !reference, op(type), op(Op.OUT));
            fitsOrNot("NEG of " + type, !reference, op(type), op(Op.NEG));
            fitsOrNot("IF of " + type, !reference, op(type), op(Op.IF, 0, 0, 0));
            fitsOrNot("IFC of " + type + " on top", !reference, op(0, type), op(Op.IFC, 0, 0, 0));
            fitsOrNot("IFC of " + type + " below", !reference, op(type, 0), op(Op.IFC, 0, 0, 0));
            for (int op = Op.ADD; op <= Op.USHR; op++) {
                fitsOrNot(op + " of " + type + " on top", !reference, op(0, type), op(op));
                fitsOrNot(op + " of " + type + " below", !reference, op(type, 0), op(op));
            }
        }
    }

    /** LOAD: the local, not UNUSABLE: the last parameter is not, the first local behind it is. */
    private static void unusableLocals() {
        for (int params = 0; params <= 7; params++) {
            for (int local : new int[] {params - 1, params}) {
                if (local >= 0) {
                    Code code = new Code().op(Op.LOAD, local, Op.RETURN);
                    Maker maker = world(0, 0, new Code().op(Op.RETURN))
                        .method(255, new int[params], 255, params + 1, 1, code);
                    int answer = maker.load(new SteadyMachine());
                    DUE.due("LOAD " + local + " of " + params + " parameters", answer > 0 ? 1 : answer,
                        local < params ? 1 : -10003 - maker.codePlace(5));
                }
            }
        }
    }

    /** What stands behind it comes to the next one (it is bad, when there is none), unless it is one of four. */
    private static void noNextInstruction() {
        for (int[][] one : INSTRUCTIONS) {
            boolean ends = one[0][0] == Op.GOTO || one[0][0] == Op.RETURN || one[0][0] == Op.THROW;
            Code whole = behind(one[1], one[0]);
            int size = whole.size() - 1;
            Code cut = new Code().op(whole.done().stream().limit(size).mapToInt(Integer::intValue).toArray());
            Maker maker = world(1, 11, cut);
            int answer = maker.load(new SteadyMachine());
            int due = ends ? 1 : -10003 - maker.codePlace(0) - whole.placeOf("op");
            DUE.due(one[0][0] + " at the end", answer > 0 ? 1 : answer, due);
        }
    }

    /** It is BAD, when the method's stack has no place: the instruction that a handler covers, not the handler's. */
    private static void handlersWithoutPlace() {
        for (int stack : new int[] {0, 1}) {
            Code code = new Code().jump(Op.GOTO, "covered").mark("caught").op(Op.RETURN).mark("covered")
                .op(Op.CALL, 3).mark("to").op(Op.RETURN);
            Maker maker = others(kinds().method(0, stack, code).handler("covered", "to", 0, "caught"));
            int answer = maker.load(new SteadyMachine());
            int due = stack == 1 ? 1 : -10003 - maker.codePlace(0) - code.placeOf("covered");
            DUE.due("a handler and a stack of " + stack, answer > 0 ? 1 : answer, due);
        }
        // One that covers nothing that is looked at needs no place.
        Code dead = new Code().op(Op.RETURN).mark("covered").op(Op.RETURN).mark("to");
        Maker maker = others(kinds().method(0, 0, dead).handler("covered", "to", 0, "covered"));
        DUE.due("a handler of dead code", maker.load(new SteadyMachine()) > 0, true);
    }

    /** For each handler whose from <= its place < to: local 0 tells which instructions came to its place. */
    private static void handlersFromAndTo() {
        // Local 0 is one of these before the instructions of each part, of which a CALL is the first.
        int[] types = {Op.UNUSABLE, Op.INT, Op.NULL_TYPE, A, INTS};
        int[][] parts = {op(Op.IN, Op.STORE, 0), op(Op.NULL, Op.STORE, 0), op(Op.NEW, 0, Op.STORE, 0),
            op(Op.IN, Op.ROW, 0, Op.STORE, 0), op()};
        Code code = new Code();
        int[] begins = new int[6];
        for (int i = 0; i < 5; i++) {
            code.op(Op.CALL, 3).op(parts[i]);
            begins[i + 1] = code.size();
        }
        code.op(Op.RETURN).mark("caught").op(Op.POP, Op.RETURN);
        for (int from = 0; from < 5; from++) {
            int due = types[from];
            for (int last = from; last < 5; last++) {
                due = meet(due, types[last]);
                comesFrom(code, begins[from], begins[last] + 2, due);
                comesFrom(code, begins[from], begins[last + 1], due);
            }
        }
    }

    private static void comesFrom(Code code, int from, int to, int due) {
        SteadyMachine x = new SteadyMachine();
        int caught = code.placeOf("caught");
        Maker maker = others(kinds().method(1, 1, code).handler(from, to, 3, caught));
        DUE.due("a handler is taken", maker.load(x) > 0, true);
        DUE.due("a handler from " + from + " to " + to, x.stands(0, caught, 1, 0), due);
        DUE.due("what is on the stack", x.stands(0, caught, 2, 0), D);
        DUE.due("that alone", x.stands(0, caught, 0, 0), 1);
    }

    /** What these types meet as. */
    private static int meet(int one, int other) {
        if (one == other) {
            return one;
        }
        if (one == Op.INT || one == Op.UNUSABLE || other == Op.INT || other == Op.UNUSABLE) {
            return Op.UNUSABLE;
        }
        return one == Op.NULL_TYPE ? other : other == Op.NULL_TYPE ? one : Op.ANY;
    }

    /** For each handler, by numbers: the first whose place is bad to come to is told, up to the eighth. */
    private static void handlersByNumbers() {
        for (int number = 0; number < 8; number++) {
            Code code = new Code().mark("low").op(Op.CALL, 3).mark("covered").op(Op.CALL, 3).mark("to")
                .op(Op.RETURN).mark("caught").op(Op.POP, Op.RETURN);
            Maker maker = kinds().method(0, 1, code);
            for (int i = 0; i < 8; i++) {
                maker.handler("covered", "to", i % 4, i == number ? "low" : i < number ? "caught" : "covered");
            }
            DUE.due("handler " + number, others(maker).load(new SteadyMachine()), -10003 - maker.codePlace(0));
        }
    }

    /** What stands before it comes there: what came by a jump, too, not what was looked at last. */
    private static void handlersAsItStands() {
        Code code = new Code().op(Op.IN, Op.STORE, 0, Op.IN).jumpIf(Op.IF, Op.EQ, "both").op(Op.NULL, Op.STORE, 0)
            .mark("both").op(Op.CALL, 3).mark("to").op(Op.RETURN).mark("caught").op(Op.RETURN);
        SteadyMachine x = new SteadyMachine();
        DUE.due("it is taken", others(kinds().method(1, 1, code).handler("both", "to", 0, "caught")).load(x) > 0, true);
        DUE.due("before it", x.stands(0, code.placeOf("both"), 1, 0), Op.UNUSABLE);
        DUE.due("at the handler's place", x.stands(0, code.placeOf("caught"), 1, 0), Op.UNUSABLE);
        // A jump over what lies between: what that leaves does not come.
        Code over = new Code().op(Op.IN, Op.STORE, 0).jump(Op.GOTO, "far").mark("near").op(Op.CALL, 3).mark("to")
            .op(Op.RETURN).mark("far").op(Op.NEW, 0, Op.STORE, 0).jump(Op.GOTO, "near").mark("caught").op(Op.RETURN);
        SteadyMachine y = new SteadyMachine();
        DUE.due("it is taken", others(kinds().method(1, 1, over).handler("near", "to", 0, "caught")).load(y) > 0, true);
        DUE.due("at its place", y.stands(0, over.placeOf("caught"), 1, 0), A);
    }

    /** COMING: that one to which it comes is BAD, when the stack is not as high. */
    private static void comingHeights() {
        for (int one = 0; one <= 2; one++) {
            for (int other = 0; other <= 2; other++) {
                Code code = new Code().op(Op.IN).jumpIf(Op.IF, Op.EQ, "b");
                for (int i = 0; i < one; i++) {
                    code.op(Op.IN);
                }
                code.jump(Op.GOTO, "c").mark("b");
                for (int i = 0; i < other; i++) {
                    code.op(Op.IN);
                }
                code.mark("c").op(Op.RETURN);
                Maker maker = world(0, 2, code);
                int answer = maker.load(new SteadyMachine());
                int due = one == other ? 1 : -10003 - maker.codePlace(0) - code.placeOf("c");
                DUE.due("heights " + one + " and " + other, answer > 0 ? 1 : answer, due);
            }
        }
    }

    /** Or two places of the stack meet as UNUSABLE: the lowest one and the one on top. */
    private static void comingStacks() {
        for (int place = 0; place < 3; place++) {
            for (int type : ALL) {
                Code code = new Code().op(Op.IN).jumpIf(Op.IF, Op.EQ, "b");
                int[] types = {A, A, A};
                give(give(give(code, A), A), A).jump(Op.GOTO, "c").mark("b");
                types[place] = type;
                for (int t : types) {
                    give(code, t);
                }
                Maker maker = world(1, 4, code.mark("c").op(Op.RETURN));
                int answer = maker.load(new SteadyMachine());
                int due = type != Op.INT ? 1 : -10003 - maker.codePlace(0) - code.placeOf("c");
                DUE.due("A and " + type + " at " + place, answer > 0 ? 1 : answer, due);
            }
        }
    }

    /** It is marked, when something changes: in the last of twelve locals, too; and else it is not looked at again. */
    private static void comingChanges() {
        for (int local : new int[] {0, 10}) {
            Code code = new Code().op(Op.NULL, Op.STORE, local).mark("back").op(Op.LOAD, local).jump(Op.IFNULL, "on")
                .mark("on").op(Op.NEW, 3, Op.STORE, local).jump(Op.GOTO, "back");
            SteadyMachine x = new SteadyMachine();
            DUE.due("a loop is taken", world(11, 1, code).load(x) > 0, true);
            DUE.due("NULL became a class", x.stands(0, code.placeOf("back"), 1, local), D);
            DUE.due("and what is loaded", x.stands(0, code.placeOf("back") + 2, 2, 0), D);
            DUE.due("and behind it", x.stands(0, code.placeOf("on"), 1, local), D);
        }
    }

    /** In the first method that has one: each of 64 methods may be it. */
    private static void firstBadMethod() {
        for (int bad : new int[] {0, 1, 62, 63}) {
            Maker maker = new Maker().kind(255, Maker.types());
            for (int m = 0; m < 64; m++) {
                maker.method(0, 0, m < bad ? new Code().op(Op.RETURN) : new Code().jump(Op.GOTO, "a").mark("a")
                    .op(Op.POP));
            }
            DUE.due("method " + bad, maker.load(new SteadyMachine()), -10003 - maker.codePlace(bad) - 3);
        }
    }

    /** Promise 16: a method that is none; there is no image. */
    private static void standsOfMethods() {
        SteadyMachine x = new SteadyMachine();
        DUE.due("no image", x.stands(0, 0, 0, 0), -1);
        world(0, 0, new Code().op(Op.RETURN)).load(x);
        int[][] due = {{Integer.MIN_VALUE, -1}, {-1, -1}, {0, 0}, {4, 0}, {5, -1}, {63, -1}, {64, -1}, {255, -1},
            {Integer.MAX_VALUE, -1}};
        for (int[] one : due) {
            DUE.due("stands(" + one[0] + ", 0, 0, 0)", x.stands(one[0], 0, 0, 0), one[1]);
        }
        x.feed(0, 0, 0, 0, 0);
        DUE.due("a refused end", x.end(21), -1);
        DUE.due("the image stays", x.stands(4, 0, 1, 6), A);
        x.feed(0, 0, 0, 0, 0);
        DUE.due("a wrong image", x.end(20), -3);
        DUE.due("no image again", x.stands(4, 0, 1, 6), -1);
    }

    /** No instruction begins there; nothing came there. */
    private static void standsOfPlaces() {
        Code code = new Code().number(1).op(Op.STORE, 0).jump(Op.GOTO, "end").mark("dead").op(Op.IN, Op.POP)
            .mark("end").op(Op.RETURN);
        SteadyMachine x = new SteadyMachine();
        world(1, 1, code).load(x);
        int[] heights = {0, -1, -1, -1, -1, 1, -1, 0, -1, -1, -1, -1, 0, -1, -1};
        for (int place = 0; place < heights.length; place++) {
            DUE.due("stands at " + place, x.stands(0, place, 0, 0), heights[place]);
            DUE.due("a local at " + place, x.stands(0, place, 1, 0),
                heights[place] < 0 ? -1 : place < 7 ? Op.UNUSABLE : Op.INT);
            DUE.due("the stack at " + place, x.stands(0, place, 2, 0), heights[place] == 1 ? Op.INT : -1);
        }
        for (int place : new int[] {Integer.MIN_VALUE, -1, 999, 1000, 8000, 65536, Integer.MAX_VALUE}) {
            DUE.due("stands at " + place, x.stands(0, place, 0, 0), -1);
        }
        // What begins in another method begins not in this one.
        DUE.due("beyond the end of method 1", x.stands(1, 2, 0, 0), -1);
        DUE.due("its last one", x.stands(1, 1, 0, 0), 1);
    }

    /** For a k that is none (1, 2), and for another what; of 0 any k will do. */
    private static void standsOfLocalsAndStack() {
        for (int locals = 0; locals <= 12; locals++) {
            Code code = new Code();
            for (int i = 0; i < 12 - locals; i++) {
                code.op(Op.NULL);
            }
            SteadyMachine x = new SteadyMachine();
            world(locals, 12 - locals, code.op(Op.RETURN)).load(x);
            int place = 12 - locals;
            int[] tried = {Integer.MIN_VALUE, -1, 0, locals - 1, locals, place - 1, place, 11, 12, Integer.MAX_VALUE};
            for (int k : tried) {
                String asked = locals + " locals, k = " + k;
                DUE.due(asked + ": 0", x.stands(0, place, 0, k), place);
                DUE.due(asked + ": 1", x.stands(0, place, 1, k), k >= 0 && k < locals ? Op.UNUSABLE : -1);
                DUE.due(asked + ": 2", x.stands(0, place, 2, k), k >= 0 && k < place ? Op.NULL_TYPE : -1);
            }
            for (int what : new int[] {Integer.MIN_VALUE, -1, 3, 4, Integer.MAX_VALUE}) {
                DUE.due("what " + what, x.stands(0, place, what, 0), -1);
            }
        }
    }
}
