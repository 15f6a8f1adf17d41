/** Promises 7 and 10: what each instruction does, faults, and what flies. */
public final class InstructionsTest {
    private static final Due DUE = new Due();
    private static final int A = 1;

    public static void main(String[] args) {
        arithmetic();
        jumps();
        stackMoves();
        objects();
        rows();
        longRows();
        calls();
        faults();
        handlers();
        faultLeavesNeeds();
        DUE.finish();
    }

    /** Class 1 is below 0, class 2 alone; faults throw classes 3 to 7. */
    private static Maker world(Code first) {
        return world(6, 6, first);
    }

    private static Maker world(int locals, int stack, Code first) {
        Maker maker = new Maker().kind(255, Maker.types(Op.INT, A), 0, 1, 7, 2).kind(0, Maker.types(64), 7, 3)
            .kind(255, Maker.types());
        for (int i = 0; i < 5; i++) {
            maker.kind(255, new int[i]);
        }
        return maker.thrown(3, 4, 5, 6, 7).method(locals, stack, first)
            .method(0, Maker.types(Op.INT), Op.INT, 2, 2, new Code().op(Op.LOAD, 1, Op.DUP, Op.MUL, Op.GIVE))
            .method(0, Maker.types(), Op.INT, 1, 1, new Code().number(100).op(Op.GIVE))
            .method(1, Maker.types(), Op.INT, 1, 1, new Code().number(101).op(Op.GIVE))
            .method(255, Maker.types(A, Op.INT), 255, 3, 2, new Code().op(Op.LOAD, 0, Op.LOAD, 1, Op.PUT, 0, 0,
                Op.RETURN));
    }

    private static SteadyMachine run(Maker maker, int steps) {
        SteadyMachine x = new SteadyMachine();
        DUE.due("the image is taken", maker.load(x) > 0, true);
        x.start(5000, 2);
        x.run(steps);
        return x;
    }

    private static void outputs(String what, Code code, int... due) {
        SteadyMachine x = run(world(code.op(Op.RETURN)), 20000);
        DUE.due(what + ": state", x.state(), 2);
        DUE.due(what + ": outputs", x.count(2), due.length);
        for (int i = 0; i < due.length; i++) {
            DUE.due(what + ": output " + i, x.out(i), due[i]);
        }
    }

    private static void reckons(int op, int left, int right, int due) {
        outputs(left + " " + op + " " + right, new Code().number(left).number(right).op(op, Op.OUT), due);
    }

    private static void arithmetic() {
        int most = Integer.MAX_VALUE;
        int least = Integer.MIN_VALUE;
        reckons(Op.ADD, most, 1, least);
        reckons(Op.SUB, least, 1, most);
        reckons(Op.SUB, 3, 5, -2);
        reckons(Op.MUL, 65536, 65536, 0);
        reckons(Op.MUL, -3, 7, -21);
        reckons(Op.DIV, -7, 2, -3);
        reckons(Op.DIV, 7, -2, -3);
        reckons(Op.DIV, least, -1, least);
        reckons(Op.REM, -7, 2, -1);
        reckons(Op.REM, 7, -2, 1);
        reckons(Op.REM, least, -1, 0);
        reckons(Op.AND, 12, 10, 8);
        reckons(Op.OR, 12, 10, 14);
        reckons(Op.XOR, 12, 10, 6);
        reckons(Op.SHL, 3, 33, 6);
        reckons(Op.SHL, 1, 31, least);
        reckons(Op.SHL, 1, -1, least);
        reckons(Op.SHR, -8, 1, -4);
        reckons(Op.SHR, -8, 32, -8);
        reckons(Op.USHR, -8, 1, 0x7FFFFFFC);
        reckons(Op.USHR, -1, 63, 1);
        outputs("NEG", new Code().number(5).op(Op.NEG, Op.OUT).number(least).op(Op.NEG, Op.OUT), -5, least);
        outputs("CONST", new Code().op(Op.CONST, 0x12, 0x34, 0x56, 0x78, Op.OUT).op(Op.CONST, 255, 255, 255, 254,
            Op.OUT), 0x12345678, -2);
    }

    private static void jumps() {
        int[][] pairs = {{1, 2}, {2, 2}, {3, 2}, {Integer.MIN_VALUE, Integer.MAX_VALUE}, {-1, 0}, {0, 0}, {1, 0}};
        for (int[] pair : pairs) {
            int order = Integer.compare(pair[0], pair[1]);
            boolean[] holds = {order == 0, order != 0, order < 0, order >= 0, order > 0, order <= 0};
            for (int q = 0; q < 6; q++) {
                String what = pair[0] + " " + q + " " + pair[1];
                Code two = new Code().number(pair[0]).number(pair[1]).jumpIf(Op.IFC, q, "yes");
                outputs("IFC " + what, two.number(1).op(Op.OUT, Op.RETURN).mark("yes").number(2).op(Op.OUT),
                    holds[q] ? 2 : 1);
                if (pair[1] == 0) {
                    Code one = new Code().number(pair[0]).jumpIf(Op.IF, q, "yes");
                    outputs("IF " + what, one.number(1).op(Op.OUT, Op.RETURN).mark("yes").number(2).op(Op.OUT),
                        holds[q] ? 2 : 1);
                }
            }
        }
        refers(Op.IFNULL, true, op(Op.NULL));
        refers(Op.IFNULL, false, op(Op.NEW, 0));
        refers(Op.IFSOME, false, op(Op.NULL));
        refers(Op.IFSOME, true, op(Op.NEW, 0));
        refers(Op.IFSAME, true, op(Op.NEW, 0, Op.DUP));
        refers(Op.IFSAME, false, op(Op.NEW, 0, Op.NEW, 0));
        refers(Op.IFSAME, true, op(Op.NULL, Op.NULL));
        refers(Op.IFSAME, false, op(Op.NULL, Op.NEW, 2));
        refers(Op.IFOTHER, false, op(Op.IN, Op.ROW, 0, Op.DUP));
        refers(Op.IFOTHER, true, op(Op.IN, Op.ROW, 0, Op.IN, Op.ROW, 0));
        refers(Op.IFOTHER, false, op(Op.NULL, Op.NULL));
        refers(Op.GOTO, true, op());
    }

    private static int[] op(int... bytes) {
        return bytes;
    }

    private static void refers(int op, boolean jumps, int[] before) {
        Code code = new Code().op(before).jump(op, "yes").number(1).op(Op.OUT, Op.RETURN).mark("yes").number(2);
        outputs("jump " + op, code.op(Op.OUT), jumps ? 2 : 1);
    }

    private static void stackMoves() {
        outputs("SWAP", new Code().number(1).number(2).op(Op.SWAP, Op.OUT, Op.OUT), 1, 2);
        outputs("DUP", new Code().number(4).op(Op.DUP, Op.OUT, Op.OUT), 4, 4);
        outputs("POP", new Code().number(4).number(5).op(Op.POP, Op.OUT), 4);
        outputs("STORE, LOAD", new Code().number(4).op(Op.STORE, 5).number(6).op(Op.STORE, 4, Op.LOAD, 5, Op.OUT,
            Op.LOAD, 4, Op.OUT), 4, 6);
        outputs("IN without inputs", new Code().op(Op.IN, Op.OUT), 0);
    }

    private static void objects() {
        outputs("new fields", new Code().op(Op.NEW, 1, Op.GET, 0, 0, Op.OUT), 0);
        outputs("a field", new Code().op(Op.NEW, 1, Op.DUP, Op.STORE, 0).number(9).op(Op.PUT, 0, 0, Op.LOAD, 0,
            Op.GET, 1, 0, Op.OUT), 9);
        outputs("IS", new Code().op(Op.NEW, 1, Op.IS, 0, Op.OUT, Op.NEW, 0, Op.IS, 1, Op.OUT, Op.NEW, 2, Op.IS, 2,
            Op.OUT, Op.NEW, 2, Op.IS, 0, Op.OUT, Op.NULL, Op.IS, 0, Op.OUT, Op.IN, Op.ROW, 1, Op.IS, 0, Op.OUT),
            1, 0, 1, 0, 0, 0);
        outputs("CAST", new Code().op(Op.NEW, 1, Op.CAST, 0, Op.CAST, 1, Op.GET, 1, 0, Op.OUT, Op.NULL, Op.CAST, 2,
            Op.IS, 2, Op.OUT), 0, 0);
    }

    private static void rows() {
        for (int length : new int[] {0, 1, 15, 16, 225, 226, 3375}) {
            outputs("LENGTH " + length, new Code().number(length).op(Op.ROW, 0, Op.LENGTH, Op.OUT), length);
            if (length > 0) {
                Code code = new Code().number(length).op(Op.ROW, 0, Op.STORE, 0);
                code.op(Op.LOAD, 0).number(length - 1).op(Op.AT, Op.OUT);
                code.op(Op.LOAD, 0).number(length - 1).number(41).op(Op.TO);
                code.op(Op.LOAD, 0).number(length - 1).op(Op.AT, Op.OUT);
                code.op(Op.LOAD, 0).number(0).op(Op.AT, Op.OUT);
                outputs("AT, TO of " + length, code, 0, 41, length == 1 ? 41 : 0);
            }
        }
        Code classes = new Code().number(20).op(Op.ROW, 2, Op.STORE, 0);
        classes.op(Op.LOAD, 0).number(17).op(Op.AT, Op.IS, 1, Op.OUT);
        classes.op(Op.LOAD, 0).number(17).op(Op.NEW, 1, Op.TO, Op.LOAD, 0).number(17).op(Op.AT, Op.IS, 1, Op.OUT);
        classes.op(Op.LOAD, 0).number(18).op(Op.AT, Op.IS, 1, Op.OUT);
        outputs("a row of a class", classes, 0, 1, 0);
    }

    /** All items of a row hold what was put there, and children are made one a step. */
    private static void longRows() {
        Code fill = new Code().number(3375).op(Op.ROW, 0, Op.STORE, 0).number(0).op(Op.STORE, 1).mark("fill");
        fill.op(Op.LOAD, 0, Op.LOAD, 1, Op.LOAD, 1).number(7).op(Op.MUL, Op.TO);
        fill.op(Op.LOAD, 1).number(1).op(Op.ADD, Op.DUP, Op.STORE, 1).number(3375).jumpIf(Op.IFC, Op.LT, "fill");
        fill.number(0).op(Op.STORE, 2).mark("sum").op(Op.LOAD, 0, Op.LOAD, 1).number(1).op(Op.SUB, Op.DUP, Op.STORE, 1)
            .op(Op.AT, Op.LOAD, 2).number(31).op(Op.MUL, Op.ADD, Op.STORE, 2, Op.LOAD, 1)
            .jumpIf(Op.IF, Op.GT, "sum").op(Op.LOAD, 2, Op.OUT, Op.RETURN);
        int due = 0;
        for (int i = 3374; i >= 0; i--) {
            due = due * 31 + 7 * i;
        }
        SteadyMachine x = new SteadyMachine();
        DUE.due("the image is taken", world(fill).load(x) > 0, true);
        x.start(20000, 1);
        for (int i = 0; i < 20 && x.state() == 1; i++) {
            x.run(20000);
        }
        DUE.due("a full row: state", x.state(), 2);
        DUE.due("a full row: sum", x.out(0), due);
        // The loop has 13 steps an item, 240 of them make children; the other one has 14.
        DUE.due("a full row: steps", x.count(0), 5 + 13 * 3375 + 240 + 2 + 14 * 3375 + 3);

        Code once = new Code().number(3375).op(Op.ROW, 0, Op.DUP, Op.STORE, 0).number(3374).number(5).op(Op.TO,
            Op.RETURN);
        SteadyMachine y = run(world(once), 6);
        DUE.due("before TO: made", y.told(3), 32);
        DUE.due("before TO: place", y.frame(0, 1), 20);
        for (int i = 1; i <= 2; i++) {
            y.run(1);
            DUE.due("child " + i + ": made", y.told(3), 32 + 16 * i);
            DUE.due("child " + i + ": place", y.frame(0, 1), 20);
            DUE.due("child " + i + ": stack", y.frame(0, 2), 3);
            DUE.due("child " + i + ": the item", y.value(0, 0, 3375, 1), 0);
        }
        y.run(1);
        DUE.due("TO is done: made", y.told(3), 64);
        DUE.due("TO is done: place", y.frame(0, 1), 21);
        DUE.due("TO is done: stack", y.frame(0, 2), 0);
        DUE.due("TO is done: the item", y.value(0, 0, 3375, 1), 5);
    }

    private static void calls() {
        outputs("CALL", new Code().op(Op.NULL).number(12).op(Op.CALL, 1, Op.OUT), 144);
        outputs("SEND", new Code().op(Op.NEW, 1).number(12).op(Op.SEND, 0, 0, Op.OUT), 144);
        outputs("SEND by the object's class", new Code().op(Op.NEW, 0, Op.SEND, 0, 7, Op.OUT, Op.NEW, 1, Op.SEND, 0,
            7, Op.OUT, Op.NEW, 1, Op.CALL, 2, Op.OUT), 100, 101, 100);
        outputs("CALL that gives nothing", new Code().op(Op.NEW, 0, Op.DUP, Op.STORE, 0).number(8).op(Op.CALL, 4,
            Op.LOAD, 0, Op.GET, 0, 0, Op.OUT), 8);

        SteadyMachine x = run(world(new Code().number(1).op(Op.NEW, 0).number(7).op(Op.SEND, 0, 0, Op.OUT)
            .op(Op.RETURN)), 4);
        DUE.due("frames", x.count(3), 2);
        DUE.due("the new frame's method", x.frame(0, 0), 1);
        DUE.due("the new frame's place", x.frame(0, 1), 0);
        DUE.due("the new frame's stack", x.frame(0, 2), 0);
        DUE.due("its parameter", x.value(0, 1, 0, 1), 7);
        DUE.due("its first parameter", x.value(0, 0, 0, 1), 0);
        DUE.due("the caller's place", x.frame(1, 1), 12);
        DUE.due("the caller's stack", x.frame(1, 2), 1);
        x.run(4);
        DUE.due("back: frames", x.count(3), 1);
        DUE.due("back: place", x.frame(0, 1), 15);
        DUE.due("back: stack", x.frame(0, 2), 2);
        DUE.due("back: what was given", x.value(0, 7, 0, 1), 49);
        // Locals that are no parameters are the int 0, whatever lay there.
        SteadyMachine y = run(world(new Code().op(Op.NEW, 0).number(8).op(Op.CALL, 4, Op.RETURN)), 3);
        DUE.due("a local that is no parameter", y.value(0, 2, 0, 0), 0);
        DUE.due("it is 0", y.value(0, 2, 0, 1), 0);
    }

    private static void faultOf(String what, int fault, Code code) {
        SteadyMachine x = run(world(code.op(Op.RETURN)), 1000);
        DUE.due(what + ": state", x.state(), 3);
        DUE.due(what + ": class", x.value(-1, 0, 0, 1), 3 + fault);
        DUE.due(what + ": fields", x.value(-1, 0, 0, 2), fault);
    }

    private static void faults() {
        faultOf("GET", 0, new Code().op(Op.NULL, Op.GET, 0, 0));
        faultOf("PUT", 0, new Code().op(Op.NULL, Op.IN, Op.PUT, 0, 0));
        faultOf("LENGTH", 0, new Code().op(Op.NULL, Op.LENGTH));
        faultOf("AT", 0, new Code().op(Op.NULL).number(-1).op(Op.AT));
        faultOf("TO", 0, new Code().op(Op.NULL).number(-1).op(Op.IN, Op.TO));
        faultOf("SEND", 0, new Code().op(Op.NULL, Op.SEND, 0, 7));
        faultOf("SEND with a parameter", 0, new Code().op(Op.NULL, Op.IN, Op.SEND, 1, 0));
        faultOf("THROW", 0, new Code().op(Op.NULL, Op.THROW));
        for (int length : new int[] {0, 1, 15, 16, 225, 226, 3375}) {
            for (int i : new int[] {-1, length, Integer.MIN_VALUE, Integer.MAX_VALUE}) {
                faultOf("AT " + i, 1, new Code().number(length).op(Op.ROW, 0).number(i).op(Op.AT));
                faultOf("TO " + i, 1, new Code().number(length).op(Op.ROW, 0).number(i).op(Op.IN, Op.TO));
            }
        }
        faultOf("DIV", 2, new Code().number(1).number(0).op(Op.DIV));
        faultOf("REM", 2, new Code().number(0).number(0).op(Op.REM));
        faultOf("CAST of a class above", 3, new Code().op(Op.NEW, 0, Op.CAST, 1));
        faultOf("CAST of another class", 3, new Code().op(Op.NEW, 2, Op.CAST, 0));
        faultOf("CAST of a row", 3, new Code().op(Op.IN, Op.ROW, 1, Op.CAST, 0));
        for (int length : new int[] {-1, 3376, Integer.MIN_VALUE, Integer.MAX_VALUE}) {
            faultOf("ROW " + length, 4, new Code().number(length).op(Op.ROW, 0));
        }
    }

    private static void handlers() {
        // The first handler by numbers whose class is that or above; its place is where the stack is that alone.
        Code code = new Code().number(5).mark("from").op(Op.NEW, 1, Op.THROW).mark("to").mark("one").op(Op.POP)
            .number(1).op(Op.OUT, Op.RETURN).mark("two").op(Op.STORE, 0).number(2).op(Op.OUT, Op.RETURN);
        Maker maker = new Maker().kind(255, Maker.types()).kind(0, Maker.types()).kind(255, Maker.types())
            .method(1, 2, code).handler("from", "to", 2, "one").handler("from", "to", 0, "two")
            .handler("from", "to", 1, "one");
        SteadyMachine x = run(maker, 4);
        DUE.due("caught: flies", x.count(4), 0);
        DUE.due("caught: place", x.frame(0, 1), code.placeOf("two"));
        DUE.due("caught: stack", x.frame(0, 2), 1);
        DUE.due("caught: what", x.value(0, 1, 0, 1), 1);
        x.run(100);
        DUE.due("caught by the second handler", x.out(0), 2);

        // A handler does not reach its own end, and one of the caller covers the instruction that called.
        Code caller = new Code().number(3).mark("from").op(Op.CALL, 1).mark("to").op(Op.RETURN).mark("h").op(Op.POP)
            .number(4).op(Op.OUT, Op.RETURN);
        Code called = new Code().mark("from").op(Op.NEW, 0).mark("to").op(Op.THROW).mark("h").op(Op.POP, Op.RETURN);
        Maker two = new Maker().kind(255, Maker.types()).method(0, 2, caller).handler("from", "to", 0, "h")
            .method(0, 1, called).handler("from", "to", 0, "h");
        SteadyMachine y = run(two, 100);
        DUE.due("caught by the caller: state", y.state(), 2);
        DUE.due("caught by the caller", y.out(0), 4);
        DUE.due("caught by the caller: steps", y.count(0), 10);
    }

    /** What a faulty instruction needs stays on the stack, and its place stays. */
    private static void faultLeavesNeeds() {
        SteadyMachine x = run(world(new Code().number(8).number(0).op(Op.DIV, Op.RETURN)), 3);
        DUE.due("steps", x.count(0), 3);
        DUE.due("flies", x.count(4), 1);
        DUE.due("place", x.frame(0, 1), 10);
        DUE.due("stack", x.frame(0, 2), 2);
        DUE.due("lower", x.value(0, 6, 0, 1), 8);
        DUE.due("made", x.told(3), 16 + 3);
        SteadyMachine y = run(world(new Code().op(Op.NULL).number(6).op(Op.SEND, 0, 0, Op.RETURN)), 3);
        DUE.due("SEND: frames", y.count(3), 1);
        DUE.due("SEND: stack", y.frame(0, 2), 2);
        SteadyMachine z = run(world(new Code().number(-1).op(Op.ROW, 0, Op.RETURN)), 2);
        DUE.due("ROW: stack", z.frame(0, 2), 1);
        DUE.due("ROW: made", z.told(3), 16 + 5);
    }
}
