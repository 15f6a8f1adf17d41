/** Promises 3 and 16: which instruction is bad, and what stands before each. */
public final class VerifierTest {
    private static final Due DUE = new Due();
    /** Classes 1 and 2 are below 0, class 3 below 1, class 4 is alone; types are 1 more. */
    private static final int A = 1, B = 2, C = 3, B2 = 4, D = 5, INTS = 64, ROW_A = 65, ROW_B = 66;
    private static int names;

    public static void main(String[] args) {
        moves();
        numbers();
        references();
        objects();
        rows();
        calls();
        endings();
        heights();
        handlers();
        handlersAtThemselves();
        meeting();
        firstBad();
        askedWrongly();
        DUE.finish();
    }

    private static Maker kinds() {
        return new Maker().kind(255, Maker.types(Op.INT, A, INTS), 2, 1).kind(0, Maker.types(ROW_A), 3, 4)
            .kind(0, Maker.types()).kind(1, Maker.types()).kind(255, Maker.types(D));
    }

    /** The method under test, and: 1 in slot 2 of class 0; 2 of an int, a class and a row; 3 that gives nothing; 4. */
    private static Maker world(int locals, int stack, Code code) {
        return withOthers(kinds().method(locals, stack, code));
    }

    private static Maker withOthers(Maker maker) {
        return maker
            .method(0, Maker.types(Op.INT, A), B, 3, 1, new Code().op(Op.NULL, Op.GIVE))
            .method(255, Maker.types(Op.INT, A, INTS), INTS, 3, 1, new Code().op(Op.LOAD, 2, Op.GIVE))
            .method(255, Maker.types(), 255, 0, 0, new Code().op(Op.RETURN))
            .method(1, Maker.types(), Op.INT, 1, 1, new Code().number(0).op(Op.GIVE));
    }

    private static void give(Code code, int type) {
        if (type == Op.INT) {
            code.op(Op.IN);
        } else if (type == Op.NULL_TYPE) {
            code.op(Op.NULL);
        } else if (type == Op.ANY) {
            String other = "other" + names++;
            String both = "both" + names++;
            code.op(Op.IN).jumpIf(Op.IF, Op.EQ, other).op(Op.NEW, 0).jump(Op.GOTO, both).mark(other);
            code.op(Op.NEW, 4).mark(both);
        } else if (type >= Op.ROWS) {
            code.op(Op.IN, Op.ROW, type - Op.ROWS);
        } else {
            code.op(Op.NEW, type - 1);
        }
    }

    private static Code with(int... types) {
        Code code = new Code();
        for (int type : types) {
            give(code, type);
        }
        return code;
    }

    private static int[] op(int... bytes) {
        return bytes;
    }

    /** An instruction behind values of some types, then one that is never bad there, and RETURN. */
    private static int answer(int[] op, int[] types) {
        Code code = with(types).op(op);
        return world(1, 5, code.op(Op.RETURN)).load(new SteadyMachine());
    }

    private static void fits(int[] op, int... types) {
        DUE.due("instruction " + op[0] + " fits", answer(op, types) > 0, true);
    }

    private static void bad(int[] op, int... types) {
        Maker asked = world(1, 5, with());
        int place = asked.codePlace(0) + with(types).size();
        DUE.due("instruction " + op[0] + " is bad", answer(op, types), -10003 - place);
    }

    /** The type that an instruction puts on an empty stack, but for its needs. */
    private static void puts(int type, int[] op, int... types) {
        SteadyMachine x = new SteadyMachine();
        Code code = with(types).op(op);
        int behind = code.size();
        DUE.due("instruction " + op[0] + " fits", world(1, 5, code.op(Op.RETURN)).load(x) > 0, true);
        int high = x.stands(0, behind, 0, 0);
        DUE.due("instruction " + op[0] + " puts", x.stands(0, behind, 2, high - 1), type);
    }

    private static void moves() {
        puts(Op.INT, op(Op.CONST, 1, 2, 3, 4));
        puts(Op.NULL_TYPE, op(Op.NULL));
        bad(op(Op.LOAD, 0));
        bad(op(Op.STORE, 0));
        bad(op(Op.POP));
        bad(op(Op.DUP));
        bad(op(Op.SWAP), B);
        fits(op(Op.SWAP), B, Op.INT);
        fits(op(Op.POP), Op.ANY);
        puts(B, op(Op.SWAP), B, Op.INT);
        puts(ROW_A, op(Op.DUP), ROW_A);
        for (int type : new int[] {Op.INT, A, ROW_B, Op.NULL_TYPE, Op.ANY}) {
            puts(type, op(Op.STORE, 0, Op.LOAD, 0), type);
        }
    }

    private static void numbers() {
        for (int op = Op.ADD; op <= Op.USHR; op++) {
            puts(Op.INT, op(op), Op.INT, Op.INT);
            bad(op(op), Op.INT);
            bad(op(op), A, Op.INT);
            bad(op(op), Op.INT, Op.NULL_TYPE);
        }
        puts(Op.INT, op(Op.NEG), Op.INT);
        bad(op(Op.NEG), A);
        bad(op(Op.NEG));
        fits(op(Op.OUT), Op.INT);
        bad(op(Op.OUT), INTS);
        bad(op(Op.OUT));
        puts(Op.INT, op(Op.IN));
    }

    private static void references() {
        for (int type : new int[] {A, ROW_A, INTS, Op.NULL_TYPE, Op.ANY}) {
            fits(op(Op.IFNULL, 0, 0), type);
            fits(op(Op.IFSOME, 0, 0), type);
            fits(op(Op.IFSAME, 0, 0), type, D);
            fits(op(Op.IFOTHER, 0, 0), D, type);
            puts(Op.INT, op(Op.IS, 4), type);
            puts(C, op(Op.CAST, 2), type);
        }
        for (int op : new int[] {Op.IFNULL, Op.IFSOME, Op.IFSAME, Op.IFOTHER}) {
            bad(op(op, 0, 0), Op.INT);
            bad(op(op, 0, 0), Op.INT, Op.INT);
            bad(op(op, 0, 0));
        }
        bad(op(Op.IFSAME, 0, 0), A);
        bad(op(Op.IFSAME, 0, 0), Op.INT, A);
        bad(op(Op.IFOTHER, 0, 0), A, Op.INT);
        bad(op(Op.IS, 0), Op.INT);
        bad(op(Op.CAST, 0), Op.INT);
        bad(op(Op.IF, 0, 0, 0), A);
        bad(op(Op.IF, 0, 0, 0));
        bad(op(Op.IFC, 0, 0, 0), Op.INT, A);
        bad(op(Op.IFC, 0, 0, 0), A, Op.INT);
        bad(op(Op.IFC, 0, 0, 0), Op.INT);
        fits(op(Op.IFC, 5, 0, 0), Op.INT, Op.INT);
        fits(op(Op.IF, 5, 0, 0), Op.INT);
    }

    private static void objects() {
        puts(B2, op(Op.NEW, 3));
        puts(Op.INT, op(Op.GET, 0, 0), A);
        puts(A, op(Op.GET, 0, 1), B2);
        puts(INTS, op(Op.GET, 0, 2), Op.NULL_TYPE);
        puts(ROW_A, op(Op.GET, 1, 3), B2);
        bad(op(Op.GET, 1, 0), A);
        bad(op(Op.GET, 0, 0), D);
        bad(op(Op.GET, 0, 0), ROW_A);
        bad(op(Op.GET, 0, 0), Op.ANY);
        bad(op(Op.GET, 0, 0), Op.INT);
        bad(op(Op.GET, 0, 0));
        fits(op(Op.PUT, 0, 0), A, Op.INT);
        fits(op(Op.PUT, 0, 1), Op.NULL_TYPE, Op.NULL_TYPE);
        fits(op(Op.PUT, 0, 1), C, B2);
        fits(op(Op.PUT, 0, 2), C, INTS);
        bad(op(Op.PUT, 0, 0), A, A);
        bad(op(Op.PUT, 0, 0), A, Op.NULL_TYPE);
        bad(op(Op.PUT, 0, 1), A, D);
        bad(op(Op.PUT, 0, 1), A, Op.ANY);
        bad(op(Op.PUT, 0, 1), Op.ANY, A);
        bad(op(Op.PUT, 0, 2), A, ROW_A);
        bad(op(Op.PUT, 1, 3), B, ROW_B);
        bad(op(Op.PUT, 1, 3), A, ROW_A);
        bad(op(Op.PUT, 0, 0), Op.INT);
    }

    private static void rows() {
        puts(INTS, op(Op.ROW, 0), Op.INT);
        puts(ROW_B, op(Op.ROW, 2), Op.INT);
        bad(op(Op.ROW, 0), A);
        bad(op(Op.ROW, 0));
        for (int row : new int[] {INTS, ROW_A, Op.NULL_TYPE}) {
            puts(Op.INT, op(Op.LENGTH), row);
        }
        for (int other : new int[] {A, Op.INT, Op.ANY}) {
            bad(op(Op.LENGTH), other);
            bad(op(Op.AT), other, Op.INT);
            bad(op(Op.TO), other, Op.INT, Op.INT);
        }
        puts(Op.INT, op(Op.AT), INTS, Op.INT);
        puts(B, op(Op.AT), ROW_B, Op.INT);
        puts(Op.NULL_TYPE, op(Op.AT), Op.NULL_TYPE, Op.INT);
        bad(op(Op.AT), INTS, A);
        bad(op(Op.AT), INTS);
        bad(op(Op.AT), Op.INT);
        fits(op(Op.TO), INTS, Op.INT, Op.INT);
        fits(op(Op.TO), ROW_A, Op.INT, B2);
        fits(op(Op.TO), ROW_A, Op.INT, Op.NULL_TYPE);
        for (int type : new int[] {Op.INT, A, INTS, Op.NULL_TYPE, Op.ANY}) {
            fits(op(Op.TO), Op.NULL_TYPE, Op.INT, type);
        }
        bad(op(Op.TO), INTS, Op.INT, Op.NULL_TYPE);
        bad(op(Op.TO), ROW_B, Op.INT, A);
        bad(op(Op.TO), ROW_B, Op.INT, Op.INT);
        bad(op(Op.TO), ROW_B, Op.INT, Op.ANY);
        bad(op(Op.TO), INTS, A, Op.INT);
        bad(op(Op.TO), Op.INT, Op.INT);
    }

    private static void calls() {
        puts(INTS, op(Op.CALL, 2), Op.INT, B2, INTS);
        puts(INTS, op(Op.CALL, 2), Op.INT, Op.NULL_TYPE, Op.NULL_TYPE);
        bad(op(Op.CALL, 2), Op.INT, D, INTS);
        bad(op(Op.CALL, 2), Op.INT, A, ROW_A);
        bad(op(Op.CALL, 2), A, INTS);
        puts(A, op(Op.CALL, 3), A);
        puts(B, op(Op.CALL, 1), C, Op.INT, A);
        puts(B, op(Op.SEND, 0, 2), A, Op.INT, C);
        puts(B, op(Op.SEND, 3, 2), B2, Op.INT, A);
        puts(B, op(Op.SEND, 1, 2), Op.NULL_TYPE, Op.INT, A);
        bad(op(Op.SEND, 3, 2), B, Op.INT, A);
        bad(op(Op.SEND, 0, 2), D, Op.INT, A);
        bad(op(Op.SEND, 0, 2), A, Op.INT, D);
        bad(op(Op.SEND, 0, 2), Op.INT, A);
        puts(Op.INT, op(Op.SEND, 1, 3), B2);
        bad(op(Op.SEND, 1, 3), A);
        bad(op(Op.SEND, 1, 3), Op.ANY);
    }

    private static void endings() {
        fits(op(Op.THROW), A);
        fits(op(Op.THROW), Op.NULL_TYPE);
        bad(op(Op.THROW), Op.ANY);
        bad(op(Op.THROW), ROW_A);
        bad(op(Op.THROW), Op.INT);
        bad(op(Op.THROW));
        bad(op(Op.GIVE), A);
        bad(op(Op.GIVE), Op.NULL_TYPE);
        gives("RETURN of a method that gives", A, new Code().op(Op.RETURN), 0);
        gives("GIVE of a class below", A, new Code().op(Op.NEW, 3, Op.GIVE), -1);
        gives("GIVE of NULL", ROW_A, new Code().op(Op.NULL, Op.GIVE), -1);
        gives("GIVE of a class above", B, new Code().op(Op.NEW, 0, Op.GIVE), 2);
        gives("GIVE of an int", B, new Code().op(Op.IN, Op.GIVE), 1);
        gives("GIVE of NULL as an int", Op.INT, new Code().op(Op.NULL, Op.GIVE), 1);
        gives("GIVE of nothing", B, new Code().op(Op.GIVE), 0);
        Maker behind = world(0, 1, new Code().op(Op.IN));
        DUE.due("no next instruction", behind.load(new SteadyMachine()), -10003 - behind.codePlace(0));
        Maker jump = world(0, 1, new Code().op(Op.IN).jumpIf(Op.IF, 0, "a").mark("a").op(Op.IN, Op.OUT));
        DUE.due("no next instruction later", jump.load(new SteadyMachine()), -10003 - jump.codePlace(0) - 6);
        Maker around = world(0, 1, new Code().mark("a").op(Op.IN, Op.OUT).jump(Op.GOTO, "a"));
        DUE.due("GOTO at the end", around.load(new SteadyMachine()) > 0, true);
    }

    /** Method 5 gives a type; place is that of what is bad, -1 when it fits. */
    private static void gives(String what, int type, Code code, int place) {
        Maker maker = world(0, 0, new Code().op(Op.RETURN)).method(255, Maker.types(), type, 0, 1, code);
        int answer = maker.load(new SteadyMachine());
        DUE.due(what, answer > 0 ? 1 : answer, place < 0 ? 1 : -10003 - maker.codePlace(5) - place);
    }

    private static void heights() {
        int[][] fills = {op(Op.CONST, 0, 0, 0, 0), op(Op.NULL), op(Op.LOAD, 0), op(Op.DUP), op(Op.NEW, 0), op(Op.IN)};
        for (int[] op : fills) {
            Code code = new Code().op(Op.IN, Op.STORE, 0, Op.IN, Op.IN);
            int place = code.size();
            Maker tight = world(1, 2, code.op(op).op(Op.RETURN));
            DUE.due("a place too many for " + op[0], tight.load(new SteadyMachine()),
                -10003 - tight.codePlace(0) - place);
        }
        Maker call = world(0, 0, new Code().op(Op.CALL, 5, Op.RETURN))
            .method(255, Maker.types(), Op.INT, 0, 1, new Code().op(Op.IN, Op.GIVE));
        DUE.due("a place too many for what is given", call.load(new SteadyMachine()), -10003 - call.codePlace(0));
        Maker fits = world(0, 0, new Code().op(Op.CALL, 3, Op.RETURN));
        DUE.due("CALL that gives nothing", fits.load(new SteadyMachine()) > 0, true);
    }

    private static void handlers() {
        Maker none = kinds().method(0, 0, new Code().op(Op.RETURN)).handler(0, 1, 0, 0);
        withOthers(none);
        DUE.due("no place for what flies", none.load(new SteadyMachine()), -10003 - none.codePlace(0));

        Code code = new Code().number(1).op(Op.STORE, 0).mark("from").op(Op.NEW, 0, Op.STORE, 0).mark("to")
            .op(Op.RETURN).mark("caught").op(Op.STORE, 1, Op.RETURN);
        SteadyMachine x = new SteadyMachine();
        Maker maker = withOthers(kinds().method(2, 1, code).handler("from", "to", 3, "caught"));
        DUE.due("a handler", maker.load(x) > 0, true);
        int caught = code.placeOf("caught");
        DUE.due("the stack at the handler", x.stands(0, caught, 0, 0), 1);
        DUE.due("what is on it", x.stands(0, caught, 2, 0), B2);
        DUE.due("a local that did not change before", x.stands(0, caught, 1, 0), Op.INT);
        DUE.due("a local not set", x.stands(0, caught, 1, 1), Op.UNUSABLE);

        Code wide = new Code().number(1).op(Op.STORE, 0).mark("from").op(Op.NEW, 0, Op.STORE, 0, Op.RETURN)
            .mark("to").mark("caught").op(Op.STORE, 1, Op.RETURN);
        SteadyMachine y = new SteadyMachine();
        withOthers(kinds().method(2, 1, wide).handler("from", "to", 3, "caught")).load(y);
        DUE.due("a local that changed", y.stands(0, wide.placeOf("caught"), 1, 0), Op.UNUSABLE);

        // The handler's place is come to with another height: it is bad there, before the instruction that is bad too.
        Code meets = new Code().op(Op.IN, Op.POP).mark("from").op(Op.POP).mark("to").op(Op.RETURN);
        Maker met = withOthers(kinds().method(0, 1, meets).handler("from", "to", 0, "from"));
        DUE.due("a handler at another height", met.load(new SteadyMachine()), -10003 - met.codePlace(0) - 2);
        Code later = new Code().op(Op.NEW, 0).mark("from").op(Op.POP).mark("to").op(Op.RETURN);
        SteadyMachine z = new SteadyMachine();
        withOthers(kinds().method(0, 1, later).handler("from", "to", 4, "from")).load(z);
        DUE.due("a handler that meets", z.stands(0, 2, 2, 0), Op.ANY);

        // A handler that covers nothing that is looked at brings nothing.
        Code dead = new Code().op(Op.RETURN).mark("from").op(Op.POP, Op.RETURN).mark("to");
        SteadyMachine w = new SteadyMachine();
        DUE.due("dead code", withOthers(kinds().method(0, 0, dead).handler("from", "to", 0, "from")).load(w) > 0, true);
        DUE.due("nothing came there", w.stands(0, 1, 0, 0), -1);
    }

    /** A handler's place may be the instruction that it covers: the instruction is done with what stands there then. */
    private static void handlersAtThemselves() {
        // Both LENGTH, of a row and a class, and ADD, to which the other handler comes, are bad: LENGTH is done first.
        Code row = new Code().number(1).op(Op.ROW, 0).jump(Op.GOTO, "self").mark("add").op(Op.ADD, Op.RETURN)
            .mark("self").op(Op.LENGTH).mark("to").op(Op.OUT, Op.RETURN);
        Maker length = kinds().method(0, 2, row).handler("self", "to", 0, "self").handler("self", "to", 0, "add");
        DUE.due("a row and a class", withOthers(length).load(new SteadyMachine()),
            -10003 - length.codePlace(0) - row.placeOf("self"));
        Maker turned = kinds().method(0, 2, row).handler("self", "to", 0, "add").handler("self", "to", 0, "self");
        DUE.due("by the second handler", withOthers(turned).load(new SteadyMachine()),
            -10003 - turned.codePlace(0) - row.placeOf("self"));

        // GET of class 1 would come to "to" with another height, which is bad there; of class 0 it is bad itself.
        Code get = new Code().op(Op.IN).jumpIf(Op.IF, Op.EQ, "to").op(Op.NEW, 1)
            .mark("self").op(Op.GET, 1, 3).mark("to").op(Op.RETURN);
        Maker classes = withOthers(kinds().method(0, 2, get).handler("self", "to", 2, "self"));
        DUE.due("two classes", classes.load(new SteadyMachine()),
            -10003 - classes.codePlace(0) - get.placeOf("self"));

        // What stands there is bad as it meets, before the instruction is done and before other handlers come.
        Code number = new Code().op(Op.IN).mark("self").op(Op.NEW, 0).mark("to").op(Op.RETURN);
        Maker met = withOthers(kinds().method(0, 1, number).handler("self", "to", 0, "self"));
        DUE.due("an int and a class", met.load(new SteadyMachine()), -10003 - met.codePlace(0) - 1);

        // The instruction still fits: what stands behind it is told by what both are.
        Code store = new Code().op(Op.NEW, 1).mark("self").op(Op.STORE, 0).mark("to").op(Op.RETURN);
        SteadyMachine x = new SteadyMachine();
        DUE.due("it fits", withOthers(kinds().method(1, 1, store).handler("self", "to", 2, "self")).load(x) > 0, true);
        DUE.due("what stands there", x.stands(0, store.placeOf("self"), 2, 0), A);
        DUE.due("what stands behind", x.stands(0, store.placeOf("to"), 1, 0), A);
    }

    private static void meeting() {
        met(A, A, A);
        met(B, C, A);
        met(C, B2, A);
        met(B2, B, B);
        met(A, B2, A);
        met(A, D, Op.ANY);
        met(ROW_A, ROW_B, Op.ANY);
        met(INTS, ROW_A, Op.ANY);
        met(ROW_A, ROW_A, ROW_A);
        met(A, ROW_A, Op.ANY);
        met(Op.NULL_TYPE, A, A);
        met(INTS, Op.NULL_TYPE, INTS);
        met(Op.NULL_TYPE, Op.ANY, Op.ANY);
        met(Op.ANY, B, Op.ANY);
        met(Op.NULL_TYPE, Op.NULL_TYPE, Op.NULL_TYPE);
        met(Op.INT, Op.INT, Op.INT);
        met(Op.INT, A, Op.UNUSABLE);
        met(Op.NULL_TYPE, Op.INT, Op.UNUSABLE);
        met(INTS, Op.INT, Op.UNUSABLE);

        // What a loop brings back changes what stood there before.
        Code code = new Code().op(Op.NEW, 3, Op.STORE, 0).mark("back").op(Op.LOAD, 0, Op.POP)
            .op(Op.NEW, 2, Op.STORE, 0, Op.IN).jumpIf(Op.IF, Op.EQ, "back").op(Op.RETURN);
        SteadyMachine x = new SteadyMachine();
        world(1, 1, code).load(x);
        DUE.due("a loop", x.stands(0, 4, 1, 0), A);
        DUE.due("within it", x.stands(0, 6, 2, 0), A);
        DUE.due("at its end", x.stands(0, 11, 1, 0), C);

        Code height = new Code().op(Op.IN).jumpIf(Op.IF, Op.EQ, "a").op(Op.IN).mark("a").op(Op.RETURN);
        Maker maker = world(0, 1, height);
        DUE.due("another height", maker.load(new SteadyMachine()), -10003 - maker.codePlace(0) - 6);
    }

    /** Two types meet, in a local and on the stack. */
    private static void met(int one, int other, int type) {
        Code code = new Code().op(Op.IN).jumpIf(Op.IF, Op.EQ, "b");
        give(code, one);
        code.op(Op.STORE, 0).jump(Op.GOTO, "c").mark("b");
        give(code, other);
        code.op(Op.STORE, 0).mark("c").op(Op.RETURN);
        SteadyMachine x = new SteadyMachine();
        world(1, 1, code).load(x);
        DUE.due("local: " + one + " meets " + other, x.stands(0, code.placeOf("c"), 1, 0), type);

        Code stack = new Code().op(Op.IN).jumpIf(Op.IF, Op.EQ, "b");
        give(stack, one);
        stack.jump(Op.GOTO, "c").mark("b");
        give(stack, other);
        stack.mark("c").op(Op.RETURN);
        SteadyMachine y = new SteadyMachine();
        Maker maker = world(0, 1, stack);
        int bad = -10003 - maker.codePlace(0) - stack.placeOf("c");
        int answer = maker.load(y);
        if (type == Op.UNUSABLE) {
            DUE.due("stack: " + one + " meets " + other, answer, bad);
        } else {
            DUE.due("stack: " + one + " meets " + other, y.stands(0, stack.placeOf("c"), 2, 0), type);
        }
    }

    /** The first that is looked at and bad, in the first method that has one. */
    private static void firstBad() {
        Maker two = kinds().method(0, 1, new Code().op(Op.RETURN))
            .method(0, Maker.types(Op.INT, A), B, 3, 1, new Code().op(Op.NULL, Op.GIVE))
            .method(0, 1, new Code().op(Op.IN, Op.THROW))
            .method(0, 1, new Code().op(Op.POP))
            .method(1, Maker.types(), Op.INT, 1, 1, new Code().number(0).op(Op.GIVE));
        DUE.due("two bad methods", two.load(new SteadyMachine()), -10003 - two.codePlace(2) - 1);

        // The jump leads to what is bad at the end, but the lower mark is looked at first.
        Code code = new Code().op(Op.IN).jumpIf(Op.IF, Op.EQ, "end").op(Op.IN, Op.OUT, Op.POP, Op.RETURN).mark("end")
            .op(Op.POP, Op.RETURN);
        Maker lower = world(0, 1, code);
        DUE.due("the lower mark", lower.load(new SteadyMachine()), -10003 - lower.codePlace(0) - 7);

        // What comes to an earlier place marks it, and that is looked at before what stands behind the jump.
        Code back = new Code().op(Op.IN, Op.STORE, 0).mark("back").op(Op.LOAD, 0, Op.POP, Op.NULL, Op.STORE, 0, Op.IN)
            .jumpIf(Op.IF, Op.EQ, "back").op(Op.POP, Op.RETURN);
        Maker again = world(1, 1, back);
        DUE.due("an earlier mark", again.load(new SteadyMachine()), -10003 - again.codePlace(0) - 3);

        // An instruction that does not fit is bad before what it would bring to the next one.
        Code dup = new Code().mark("a").op(Op.IN, Op.DUP).jump(Op.GOTO, "a");
        Maker loop = world(0, 4, dup);
        DUE.due("a stack that grows in a loop", loop.load(new SteadyMachine()), -10003 - loop.codePlace(0));
    }

    private static void askedWrongly() {
        Code code = new Code().number(1).op(Op.STORE, 0, Op.NEW, 1, Op.POP, Op.RETURN);
        SteadyMachine x = new SteadyMachine();
        world(2, 3, code).load(x);
        DUE.due("height before POP", x.stands(0, 9, 0, 99), 1);
        DUE.due("local 0", x.stands(0, 9, 1, 0), Op.INT);
        DUE.due("local 1", x.stands(0, 9, 1, 1), Op.UNUSABLE);
        DUE.due("local 2", x.stands(0, 9, 1, 2), -1);
        DUE.due("local -1", x.stands(0, 9, 1, -1), -1);
        DUE.due("the stack", x.stands(0, 9, 2, 0), B);
        DUE.due("the stack above", x.stands(0, 9, 2, 1), -1);
        DUE.due("the stack below", x.stands(0, 9, 2, -1), -1);
        DUE.due("what 3", x.stands(0, 9, 3, 0), -1);
        DUE.due("what -1", x.stands(0, 9, -1, 0), -1);
        DUE.due("within an instruction", x.stands(0, 1, 0, 0), -1);
        DUE.due("the end", x.stands(0, 11, 0, 0), -1);
        DUE.due("place -1", x.stands(0, -1, 0, 0), -1);
        DUE.due("a place far off", x.stands(0, Integer.MAX_VALUE, 0, 0), -1);
        DUE.due("method -1", x.stands(-1, 0, 0, 0), -1);
        DUE.due("method 5", x.stands(5, 0, 0, 0), -1);
        DUE.due("a parameter with owner", x.stands(1, 0, 1, 0), A);
        DUE.due("a parameter that is told", x.stands(1, 0, 1, 1), Op.INT);
        DUE.due("a row as parameter", x.stands(2, 0, 1, 2), INTS);
        DUE.due("an empty stack", x.stands(2, 0, 0, 0), 0);
    }
}
