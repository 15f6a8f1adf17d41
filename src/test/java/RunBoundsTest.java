/**
 * 'Terms', A RUN and FAULTS: numbers that wrap around, questions at their ends, handlers at the ends of what they
 * cover, rows at the ends of their items and children, inputs that end, and what a fault leaves as it was.
 */
public final class RunBoundsTest {
    private static final Due DUE = new Due();
    private static final int MOST = Integer.MAX_VALUE;
    private static final int LEAST = Integer.MIN_VALUE;
    private static final int A = 1;

    public static void main(String[] args) {
        needsAndPuts();
        wrapping();
        towardsZero();
        lowestFiveBits();
        questions();
        handlersFromAndTo();
        handlersByNumbers();
        handlersByClass();
        handlersOfNone();
        framesLeft();
        rowLengths();
        items();
        itemsOfNothing();
        children();
        childrenNotThere();
        longRows();
        casts();
        dividing();
        faultsLeaveAll();
        inputsEnd();
        sends();
        sendsBeside();
        givenBack();
        DUE.finish();
    }

    /** Class 1 is below 0, class 2 below 1, class 3 alone; faults throw classes 4 to 8, of 0 to 4 fields. */
    private static Maker kinds() {
        Maker maker = new Maker().kind(255, Maker.types(Op.INT, A), 0, 1, 15, 2).kind(0, Maker.types(), 15, 3)
            .kind(1, Maker.types()).kind(255, Maker.types());
        for (int i = 0; i < 5; i++) {
            maker.kind(255, new int[i]);
        }
        return maker.thrown(4, 5, 6, 7, 8);
    }

    private static Maker others(Maker maker) {
        return maker.method(0, Maker.types(0, 0, 0, 0, 0, 0, 0), Op.INT, 8, 1, new Code().op(Op.LOAD, 7, Op.GIVE))
            .method(0, Maker.types(), Op.INT, 1, 1, new Code().number(100).op(Op.GIVE))
            .method(1, Maker.types(), Op.INT, 1, 1, new Code().number(101).op(Op.GIVE));
    }

    private static SteadyMachine started(Maker maker) {
        SteadyMachine x = new SteadyMachine();
        DUE.due("the image is taken", maker.load(x) > 0, true);
        x.start(5000, 2);
        return x;
    }

    private static void outputs(String what, Code code, int... due) {
        SteadyMachine x = started(others(kinds().method(2, 10, code.op(Op.RETURN))));
        x.run(20000);
        DUE.due(what + ": state()", x.state(), 2);
        DUE.due(what + ": outputs", x.count(2), due.length);
        for (int i = 0; i < due.length; i++) {
            DUE.due(what + ": output " + i, x.out(i), due[i]);
        }
    }

    private static int[] op(int... bytes) {
        return bytes;
    }

    /** An instruction, what it needs, the kinds of what it puts there (0 int, 1 nothing, 2 object, 3 and 4 rows). */
    private static final int[][][] INSTRUCTIONS = {
        {op(Op.CONST, 0, 0, 0, 9), op(), op(0)}, {op(Op.NULL), op(), op(1)}, {op(Op.LOAD, 0), op(), op(0)},
        {op(Op.STORE, 0), op(A), op()}, {op(Op.POP), op(A), op()}, {op(Op.DUP), op(A), op(2, 2)},
        {op(Op.SWAP), op(A, Op.INT), op(0, 2)}, {op(Op.ADD), op(0, 0), op(0)}, {op(Op.SUB), op(0, 0), op(0)},
        {op(Op.MUL), op(0, 0), op(0)}, {op(Op.AND), op(0, 0), op(0)}, {op(Op.OR), op(0, 0), op(0)},
        {op(Op.XOR), op(0, 0), op(0)}, {op(Op.SHL), op(0, 0), op(0)}, {op(Op.SHR), op(0, 0), op(0)},
        {op(Op.USHR), op(0, 0), op(0)}, {op(Op.NEG), op(0), op(0)}, {op(Op.NEW, 2), op(), op(2)},
        {op(Op.GET, 0, 0), op(A), op(0)}, {op(Op.GET, 0, 1), op(A), op(1)}, {op(Op.PUT, 0, 0), op(A, 0), op()},
        {op(Op.PUT, 0, 1), op(A, A), op()}, {op(Op.IS, 0), op(A), op(0)}, {op(Op.CAST, 0), op(A), op(2)},
        {op(Op.CAST, 0), op(Op.NULL_TYPE), op(1)}, {op(Op.ROW, 0), op(0), op(3)}, {op(Op.ROW, 1), op(0), op(4)},
        {op(Op.LENGTH), op(64), op(0)}, {op(Op.AT), op(64, 0), op(0)}, {op(Op.AT), op(65, 0), op(1)},
        {op(Op.TO), op(64, 0, 0), op()}, {op(Op.TO), op(65, 0, A), op()},
        {op(Op.CALL, 2), op(A), op(0)}, {op(Op.CALL, 4), op(), op()}, {op(Op.CALL, 5), op(A, 0), op(2)},
        {op(Op.SEND, 0, 15), op(A), op(0)}, {op(Op.IN), op(), op(0)}, {op(Op.OUT), op(0), op()}};

    private static void give(Code code, int type) {
        if (type == Op.INT) {
            code.number(0);
        } else if (type == Op.NULL_TYPE) {
            code.op(Op.NULL);
        } else if (type >= Op.ROWS) {
            code.number(1).op(Op.ROW, type - Op.ROWS);
        } else {
            code.op(Op.NEW, type - 1);
        }
    }

    /** What they need leaves the stack, what they put comes there, what lies below stays; the place is the next one. */
    private static void needsAndPuts() {
        for (int[][] one : INSTRUCTIONS) {
            Code code = new Code().number(5).op(Op.STORE, 0).number(-77);
            for (int type : one[1]) {
                give(code, type);
            }
            code.mark("op").op(one[0]).mark("next").op(Op.RETURN);
            SteadyMachine x = started(others(kinds().method(2, 10, code))
                .method(255, Maker.types(), 255, 0, 0, new Code().op(Op.RETURN))
                .method(255, Maker.types(A, Op.INT), A, 2, 1, new Code().op(Op.LOAD, 0, Op.GIVE)));
            stepUpTo(x, code.placeOf("op"));
            DUE.due(one[0][0] + ": needs", x.frame(0, 2), 1 + one[1].length);
            stepUpTo(x, code.placeOf("next"));
            DUE.due(one[0][0] + ": place", x.frame(0, 1), code.placeOf("next"));
            DUE.due(one[0][0] + ": frames", x.count(3), 1);
            DUE.due(one[0][0] + ": height", x.frame(0, 2), 1 + one[2].length);
            DUE.due(one[0][0] + ": what lies below", x.value(0, 2, 0, 1), -77);
            for (int i = 0; i < one[2].length; i++) {
                DUE.due(one[0][0] + ": puts", x.value(0, 3 + i, 0, 0), one[2][i]);
            }
            DUE.due(one[0][0] + ": no more", x.value(0, 3 + one[2].length, 0, 0), -1);
        }
    }

    /** Steps until the first frame is on top and at a place. */
    private static void stepUpTo(SteadyMachine x, int place) {
        for (int i = 0; i < 30 && (x.count(3) != 1 || x.frame(0, 1) != place); i++) {
            x.run(1);
        }
    }

    private static void reckons(int op, int left, int right, int due) {
        outputs(left + " " + op + " " + right, new Code().number(left).number(right).op(op, Op.OUT), due);
    }

    /** Values are ints (32 bits, wrapping). */
    private static void wrapping() {
        reckons(Op.ADD, MOST, 0, MOST);
        reckons(Op.ADD, MOST, 1, LEAST);
        reckons(Op.ADD, LEAST, -1, MOST);
        reckons(Op.ADD, LEAST, LEAST, 0);
        reckons(Op.SUB, LEAST, 0, LEAST);
        reckons(Op.SUB, LEAST, 1, MOST);
        reckons(Op.SUB, MOST, -1, LEAST);
        reckons(Op.SUB, 0, LEAST, LEAST);
        reckons(Op.MUL, 46340, 46340, 2147395600);
        reckons(Op.MUL, 46341, 46341, -2147479015);
        reckons(Op.MUL, LEAST, -1, LEAST);
        reckons(Op.MUL, 65536, 32768, LEAST);
        reckons(Op.MUL, 65536, 65536, 0);
        outputs("NEG", new Code().number(MOST).op(Op.NEG, Op.OUT).number(-MOST).op(Op.NEG, Op.OUT).number(LEAST)
            .op(Op.NEG, Op.OUT).number(0).op(Op.NEG, Op.OUT), -MOST, MOST, LEAST, 0);
        for (int v : new int[] {0, 1, -1, 127, 128, 255, 256, 32767, 32768, 65535, 65536, MOST, LEAST}) {
            outputs("CONST " + v, new Code().number(v).op(Op.OUT), v);
        }
        reckons(Op.AND, -1, LEAST, LEAST);
        reckons(Op.OR, MOST, LEAST, -1);
        reckons(Op.XOR, -1, LEAST, MOST);
    }

    /** DIV, REM are towards 0, and wrap as well. */
    private static void towardsZero() {
        int[][] pairs = {{7, 2}, {-7, 2}, {7, -2}, {-7, -2}, {6, 7}, {-6, 7}, {1, -2}, {-1, -2}, {0, 5}, {MOST, -1},
            {LEAST, 1}, {LEAST, -1}, {LEAST, 2}, {LEAST, LEAST}, {MOST, LEAST}};
        for (int[] pair : pairs) {
            long quotient = (long) ((double) pair[0] / pair[1]);
            reckons(Op.DIV, pair[0], pair[1], (int) quotient);
            reckons(Op.REM, pair[0], pair[1], (int) (pair[0] - quotient * pair[1]));
        }
    }

    /** Shifts are by the lowest five bits. */
    private static void lowestFiveBits() {
        int v = 0x80000003;
        for (int by : new int[] {0, 1, 30, 31, 32, 33, 63, 64, 1024, -1, -31, -32, MOST, LEAST}) {
            int bits = ((by % 32) + 32) % 32;
            reckons(Op.SHL, v, by, (int) ((long) v * (1L << bits)));
            reckons(Op.SHR, v, by, (int) Math.floorDiv((long) v, 1L << bits));
            reckons(Op.USHR, v, by, (int) ((v & 0xFFFFFFFFL) / (1L << bits)));
        }
    }

    /** IF q, IFC q: of the int and 0; of the lower int and the one on top. */
    private static void questions() {
        for (int left : new int[] {LEAST, -1, 0, 1, MOST}) {
            for (int right : new int[] {LEAST, -1, 0, 1, MOST}) {
                boolean[] holds = {left == right, left != right, left < right, left >= right, left > right,
                    left <= right};
                for (int q = 0; q < 6; q++) {
                    String what = left + " " + q + " " + right;
                    Code two = new Code().number(left).number(right).jumpIf(Op.IFC, q, "yes");
                    outputs("IFC " + what, answering(two), holds[q] ? 2 : 1);
                    if (right == 0) {
                        outputs("IF " + what, answering(new Code().number(left).jumpIf(Op.IF, q, "yes")),
                            holds[q] ? 2 : 1);
                    }
                }
            }
        }
    }

    private static Code answering(Code asked) {
        return asked.number(1).op(Op.OUT, Op.RETURN).mark("yes").number(2).op(Op.OUT);
    }

    /** The first handler whose from <= its place < to: four THROWs, each caught just within its own bounds. */
    private static void handlersFromAndTo() {
        String[] at = {"0", "1", "2", "3", "4"};
        for (int thrown = 0; thrown < 4; thrown++) {
            for (int from = 0; from < 4; from++) {
                for (int to = from + 1; to <= 4; to++) {
                    Code code = new Code().op(Op.NEW, 0).jump(Op.GOTO, at[thrown]);
                    for (int i = 0; i < 4; i++) {
                        code.mark(at[i]).op(Op.THROW);
                    }
                    code.mark("4").mark("caught").op(Op.POP, Op.RETURN);
                    Maker maker = kinds().method(0, 1, code).handler(at[from], at[to], 0, "caught");
                    SteadyMachine x = started(others(maker));
                    x.run(20);
                    DUE.due(thrown + " within " + from + " .. " + to, x.state(), from <= thrown && thrown < to ? 2 : 3);
                }
            }
        }
        // It may end at the end of the code.
        Code last = new Code().jump(Op.GOTO, "throw").mark("caught").op(Op.POP, Op.RETURN).mark("throw").op(Op.NEW, 0)
            .op(Op.THROW).mark("end");
        SteadyMachine x = started(others(kinds().method(0, 1, last).handler("throw", "end", 0, "caught")));
        x.run(20);
        DUE.due("up to the end of the code", x.state(), 2);
    }

    /** The first handler, by numbers, up to the eighth. */
    private static void handlersByNumbers() {
        for (int number = 0; number < 8; number++) {
            Code code = new Code().mark("from").op(Op.NEW, 1, Op.THROW).mark("to");
            Maker maker = kinds().method(0, 2, code);
            for (int i = 0; i < 8; i++) {
                code.mark("caught " + i).op(Op.POP).number(i).op(Op.OUT, Op.RETURN);
            }
            for (int i = 0; i < 8; i++) {
                maker.handler("from", "to", i < number ? 3 : 0, "caught " + i);
            }
            SteadyMachine x = started(others(maker));
            x.run(20);
            DUE.due("handler " + number, x.out(0), number);
            DUE.due("handler " + number + ": outputs", x.count(2), 1);
        }
    }

    /** Whose class is that of what flies, or above it: neither below it nor beside it. */
    private static void handlersByClass() {
        boolean[][] caught = {{true, false, false, false}, {true, true, false, false}, {true, true, true, false},
            {false, false, false, true}};
        for (int flies = 0; flies < 4; flies++) {
            for (int told = 0; told < 4; told++) {
                Code code = new Code().mark("from").op(Op.NEW, flies, Op.THROW).mark("to").op(Op.POP, Op.RETURN);
                SteadyMachine x = started(others(kinds().method(0, 1, code).handler("from", "to", told, "to")));
                DUE.due("THROW", x.run(2), 2);
                DUE.due("one more step", x.run(1), 1);
                DUE.due(flies + " by " + told + ": frames", x.count(3), caught[flies][told] ? 1 : 0);
                DUE.due(flies + " by " + told + ": flies", x.count(4), caught[flies][told] ? 0 : 1);
                DUE.due(flies + " by " + told + ": state()", x.state(), caught[flies][told] ? 1 : 3);
            }
        }
    }

    /** A method without handlers catches nothing, even where the bytes behind it look like a handler of class 1. */
    private static void handlersOfNone() {
        Code called = new Code().op(Op.NEW, 1, Op.THROW);
        Maker maker = new Maker().kind(255, Maker.types()).kind(255, Maker.types())
            .method(0, 1, new Code().op(Op.CALL, 2, Op.RETURN))
            .method(0, Maker.types(), Op.INT, 1, 1, new Code().op(Op.IN, Op.GIVE)).method(0, 1, called);
        SteadyMachine x = started(maker);
        x.run(100);
        DUE.due("UNCAUGHT", x.state(), 3);
        DUE.due("steps", x.count(0), 5);
    }

    /** When there is none, the frame is left, one a step; when there is none, the run is over: UNCAUGHT. */
    private static void framesLeft() {
        Code code = new Code().op(Op.LOAD, 0).jumpIf(Op.IF, Op.EQ, "throw").op(Op.LOAD, 0).number(1)
            .op(Op.SUB, Op.CALL, 4, Op.RETURN).mark("throw").op(Op.NEW, 3, Op.THROW);
        SteadyMachine x = started(others(kinds().method(0, 1, new Code().number(5).op(Op.CALL, 4, Op.RETURN)))
            .method(255, Maker.types(Op.INT), 255, 1, 2, code));
        DUE.due("up to THROW", x.run(2 + 5 * 6 + 4), 36);
        for (int frames = 7; frames > 1; frames--) {
            DUE.due("frames", x.count(3), frames);
            DUE.due("flies", x.count(4), 1);
            DUE.due("state()", x.state(), 1);
            DUE.due("a step", x.run(1), 1);
        }
        DUE.due("the first frame is there", x.count(3), 1);
        DUE.due("the last step", x.run(2), 1);
        DUE.due("no frames", x.count(3), 0);
        DUE.due("UNCAUGHT", x.state(), 3);
        DUE.due("steps", x.count(0), 43);
    }

    private static void faultOf(String what, int fault, Code code) {
        SteadyMachine x = started(others(kinds().method(2, 10, code.op(Op.RETURN))));
        x.run(1000);
        DUE.due(what + ": state()", x.state(), 3);
        DUE.due(what + ": class", x.value(-1, 0, 0, 1), 4 + fault);
        DUE.due(what + ": fields", x.value(-1, 0, 0, 2), fault);
    }

    /** 4: ROW of less than 0 or more than 3,375. */
    private static void rowLengths() {
        for (int type : new int[] {0, 1}) {
            for (int length : new int[] {0, 1, 15, 16, 225, 226, 3374, 3375}) {
                outputs("ROW " + length, new Code().number(length).op(Op.ROW, type, Op.LENGTH, Op.OUT), length);
            }
            for (int length : new int[] {-1, -2, 3376, 4095, 4096, LEAST, MOST}) {
                faultOf("ROW " + length, 4, new Code().number(length).op(Op.ROW, type));
            }
        }
    }

    private static Code filled(int length, int index) {
        return new Code().number(length).op(Op.ROW, 0, Op.DUP, Op.STORE, 0).number(index).number(7).op(Op.TO,
            Op.LOAD, 0).number(index).op(Op.AT, Op.OUT);
    }

    /** 1: an item that is none. */
    private static void items() {
        for (int length : new int[] {1, 2, 14, 15, 16, 30, 31, 224, 225, 226, 450, 451, 3374, 3375}) {
            for (int index : new int[] {0, length - 1}) {
                outputs("item " + index + " of " + length, filled(length, index), 7);
            }
        }
        for (int length : new int[] {0, 1, 14, 15, 16, 30, 31, 224, 225, 226, 450, 451, 3374, 3375}) {
            for (int index : new int[] {-1, length, length + 1, 3375, 4096, LEAST, MOST}) {
                faultOf("AT " + index + " of " + length, 1, new Code().number(length).op(Op.ROW, 0).number(index)
                    .op(Op.AT));
                faultOf("TO " + index + " of " + length, 1, filled(length, index));
            }
        }
    }

    /** 1 is asked behind 0: of nothing no item is asked for. */
    private static void itemsOfNothing() {
        for (int index : new int[] {-1, 0, 1, 3375, LEAST, MOST}) {
            faultOf("AT of nothing", 0, new Code().op(Op.NULL).number(index).op(Op.AT));
            faultOf("TO of nothing", 0, new Code().op(Op.NULL).number(index).op(Op.NULL, Op.TO));
        }
    }

    /** A row of more than 15 items has children, each for items that follow one another (15, or 225). */
    private static void children() {
        int[][] due = {{1, 0, 0}, {15, 14, 0}, {16, 0, 1}, {16, 15, 1}, {225, 224, 1}, {226, 0, 2}, {226, 225, 2},
            {3375, 3374, 2}};
        for (int[] one : due) {
            SteadyMachine x = started(others(kinds().method(2, 10, filled(one[0], one[1]).op(Op.RETURN))));
            DUE.due("up to TO", x.run(6), 6);
            for (int i = 1; i <= one[2]; i++) {
                DUE.due("a child", x.run(1), 1);
                DUE.due("children made", x.told(3), 32 + 16 * i);
                DUE.due("TO is not done", x.frame(0, 2), 3);
                DUE.due("its place stays", x.frame(0, 1), 20);
                DUE.due("the item is 0", x.value(0, 0, one[1] + 1, 1), 0);
            }
            DUE.due("TO", x.run(1), 1);
            DUE.due(one[0] + ", " + one[1] + ": made", x.told(3), 32 + 16 * one[2]);
            DUE.due("TO is done", x.frame(0, 2), 0);
            DUE.due("its place", x.frame(0, 1), 21);
            DUE.due("the item", x.value(0, 0, one[1] + 1, 1), 7);
        }
        // Which other item needs how many children more, once those on the way to the first one are there.
        int[][] second = {{16, 14, 13, 0}, {16, 14, 15, 1}, {225, 0, 14, 0}, {225, 0, 15, 1}, {226, 0, 14, 0},
            {226, 0, 15, 1}, {226, 0, 224, 1}, {226, 0, 225, 2}, {3375, 3149, 3150, 2}, {3375, 3374, 3360, 0},
            {3375, 3374, 3359, 1}, {3375, 3374, 3150, 1}, {3375, 3374, 3149, 2}};
        for (int[] one : second) {
            Code code = filled(one[0], one[1]);
            code.op(Op.LOAD, 0).number(one[2]).number(8).mark("TO").op(Op.TO, Op.RETURN);
            SteadyMachine x = started(others(kinds().method(2, 10, code)));
            for (int i = 0; i < 100 && x.frame(0, 1) != code.placeOf("TO"); i++) {
                x.run(1);
            }
            int made = x.told(3);
            x.run(one[3]);
            DUE.due(one[2] + " behind " + one[1] + ": children", x.told(3) - made, 16 * one[3]);
            DUE.due(one[2] + " behind " + one[1] + ": not done", x.frame(0, 1), code.placeOf("TO"));
            x.run(1);
            DUE.due(one[2] + " behind " + one[1] + ": done", x.frame(0, 1), code.placeOf("TO") + 1);
            DUE.due(one[2] + " behind " + one[1] + ": no more", x.told(3) - made, 16 * one[3]);
            DUE.due("the first item", x.value(0, 0, one[1] + 1, 1), 7);
            DUE.due("the second item", x.value(0, 0, one[2] + 1, 1), 8);
        }
    }

    /** AT of an item on the way to which one is not there gives 0 or nothing, and makes none. */
    private static void childrenNotThere() {
        for (int length : new int[] {16, 225, 226, 3375}) {
            for (int index : new int[] {0, 15, length - 1}) {
                outputs("AT of ints", new Code().number(length).op(Op.ROW, 0).number(index).op(Op.AT, Op.OUT), 0);
                Code refers = new Code().number(length).op(Op.ROW, 1).number(index).op(Op.AT).jump(Op.IFNULL, "yes");
                outputs("AT of a class", answering(refers), 2);
                SteadyMachine x = started(others(kinds().method(2, 10, new Code().number(length).op(Op.ROW, 0)
                    .number(index).op(Op.AT, Op.RETURN))));
                x.run(4);
                DUE.due("no child is made", x.told(3), 32);
            }
        }
        // The first child of two is there, the second is not.
        Code half = filled(3375, 224).op(Op.LOAD, 0).number(209).op(Op.AT, Op.OUT, Op.LOAD, 0).number(225)
            .op(Op.AT, Op.OUT, Op.LOAD, 0).number(210).op(Op.AT, Op.OUT);
        outputs("half of the way", half, 7, 0, 0, 0);
    }

    /** Items of a row of ints are ints, and those of a row of a class nothing, with and without children. */
    private static void longRows() {
        for (int type : new int[] {0, 1}) {
            for (int length : new int[] {1, 15, 16, 225, 226, 2047, 2048, 3375}) {
                Code code = new Code().number(length).op(Op.ROW, type, Op.STORE, 0, Op.LOAD, 0).number(length - 1)
                    .op(Op.AT, Op.STORE, 1, Op.LOAD, 0).number(length - 1).op(Op.LOAD, 0).number(length - 1)
                    .op(Op.AT, Op.TO).mark("put").op(Op.LOAD, 0).number(length / 2).op(Op.AT, Op.STORE, 1).mark("end")
                    .op(Op.RETURN);
                SteadyMachine x = started(others(kinds().method(2, 5, code)));
                String what = "a row of " + length;
                x.run(7);
                DUE.due(what + ": kind", x.value(0, 0, 0, 0), 3 + type);
                DUE.due(what + ": AT without children", x.value(0, 1, 0, 0), type);
                for (int item : new int[] {1, length}) {
                    DUE.due(what + ": item " + item, x.value(0, 0, item, 0), type);
                    DUE.due(what + ": no part of it", x.value(0, 0, item | 1 << 12, 0), -1);
                }
                stepUpTo(x, code.placeOf("put"));
                int child = (length - 1) / 15 * 15;
                for (int item = child + 1; item <= length; item++) {
                    DUE.due(what + ": item " + item + " with children", x.value(0, 0, item, 0), type);
                }
                stepUpTo(x, code.placeOf("end"));
                DUE.due(what + ": AT", x.value(0, 1, 0, 0), type);
            }
        }
    }

    /** 3: CAST of another object or a row; IS: 1 when it is an object of the class or one below it. */
    private static void casts() {
        boolean[][] is = {{true, false, false, false}, {true, true, false, false}, {true, true, true, false},
            {false, false, false, true}};
        for (int of = 0; of < 4; of++) {
            for (int as = 0; as < 4; as++) {
                outputs(of + " IS " + as, new Code().op(Op.NEW, of, Op.IS, as, Op.OUT), is[of][as] ? 1 : 0);
                Code cast = new Code().op(Op.NEW, of, Op.CAST, as);
                if (is[of][as]) {
                    outputs(of + " CAST " + as, cast.op(Op.IS, of, Op.OUT), 1);
                } else {
                    faultOf(of + " CAST " + as, 3, cast);
                }
            }
        }
        for (int row = 0; row < 3; row++) {
            outputs("a row IS", new Code().op(Op.IN, Op.ROW, row, Op.IS, 0, Op.OUT), 0);
            faultOf("CAST of a row", 3, new Code().op(Op.IN, Op.ROW, row, Op.CAST, 0));
        }
        outputs("nothing IS", new Code().op(Op.NULL, Op.IS, 0, Op.OUT), 0);
        outputs("CAST of nothing", answering(new Code().op(Op.NULL, Op.CAST, 3).jump(Op.IFNULL, "yes")), 2);
    }

    /** 2: DIV, REM by 0. */
    private static void dividing() {
        for (int op : new int[] {Op.DIV, Op.REM}) {
            for (int left : new int[] {LEAST, -1, 0, 1, MOST}) {
                faultOf(left + " " + op + " 0", 2, new Code().number(left).number(0).op(op));
                for (int right : new int[] {-1, 1}) {
                    reckons(op, left, right, op == Op.REM ? 0 : left * right);
                }
            }
        }
    }

    /** Nothing else of the instruction is done (needs stay on the stack, too, as with THROW). */
    private static void faultsLeaveAll() {
        leavesAll("GET", 0, 1, new Code().op(Op.NULL).mark("op").op(Op.GET, 0, 0));
        leavesAll("PUT", 0, 2, new Code().op(Op.NULL).number(5).mark("op").op(Op.PUT, 0, 0));
        leavesAll("LENGTH", 0, 1, new Code().op(Op.NULL).mark("op").op(Op.LENGTH));
        leavesAll("AT", 0, 2, new Code().op(Op.NULL).number(5).mark("op").op(Op.AT));
        leavesAll("TO", 0, 3, new Code().op(Op.NULL).number(5).number(6).mark("op").op(Op.TO));
        leavesAll("SEND", 0, 1, new Code().op(Op.NULL).mark("op").op(Op.SEND, 0, 15));
        leavesAll("THROW", 0, 1, new Code().op(Op.NULL).mark("op").op(Op.THROW));
        leavesAll("an item", 1, 2, new Code().op(Op.IN, Op.ROW, 0).number(0).mark("op").op(Op.AT));
        leavesAll("no item", 1, 3, new Code().number(99).op(Op.ROW, 0).number(99).number(6).mark("op").op(Op.TO));
        leavesAll("DIV", 2, 2, new Code().number(5).number(0).mark("op").op(Op.DIV));
        leavesAll("REM", 2, 2, new Code().number(5).number(0).mark("op").op(Op.REM));
        leavesAll("CAST", 3, 1, new Code().op(Op.NEW, 0).mark("op").op(Op.CAST, 1));
        leavesAll("ROW", 4, 1, new Code().number(-1).mark("op").op(Op.ROW, 0));
        Code thrown = new Code().op(Op.NEW, 2).mark("op").op(Op.THROW);
        SteadyMachine x = started(others(kinds().method(2, 10, thrown.op(Op.RETURN))));
        x.run(2);
        DUE.due("THROW of an object: stack", x.frame(0, 2), 1);
        DUE.due("THROW of an object: place", x.frame(0, 1), thrown.placeOf("op"));
        DUE.due("THROW of an object: it is still there", x.value(0, 2, 0, 1), 2);
        DUE.due("THROW of an object: it flies", x.value(-1, 0, 0, 1), 2);
        DUE.due("THROW of an object: made", x.told(3), 16 + 3);
    }

    private static void leavesAll(String what, int fault, int needs, Code code) {
        SteadyMachine x = started(others(kinds().method(2, 10, code.op(Op.RETURN))));
        for (int i = 0; i < 10 && x.frame(0, 1) != code.placeOf("op"); i++) {
            x.run(1);
        }
        long[] before = new long[2 * needs];
        for (int k = 0; k < needs; k++) {
            before[2 * k] = x.value(0, 2 + k, 0, 0);
            before[2 * k + 1] = x.value(0, 2 + k, 0, 1);
        }
        int made = x.told(3);
        long steps = x.count(0);
        DUE.due(what + ": stack before", x.frame(0, 2), needs);
        DUE.due(what + ": a step", x.run(1), 1);
        DUE.due(what + ": steps", x.count(0), steps + 1);
        DUE.due(what + ": stack", x.frame(0, 2), needs);
        DUE.due(what + ": place", x.frame(0, 1), code.placeOf("op"));
        DUE.due(what + ": frames", x.count(3), 1);
        DUE.due(what + ": flies", x.value(-1, 0, 0, 1), 4 + fault);
        DUE.due(what + ": made", x.told(3), made + 1 + fault);
        DUE.due(what + ": outputs", x.count(2), 0);
        for (int k = 0; k < needs; k++) {
            DUE.due(what + ": kind of need " + k, x.value(0, 2 + k, 0, 0), before[2 * k]);
            DUE.due(what + ": need " + k, x.value(0, 2 + k, 0, 1), before[2 * k + 1]);
        }
    }

    /** IN: 0, and none is taken, when there is none such. */
    private static void inputsEnd() {
        for (int inputs = 0; inputs <= 3; inputs++) {
            Code code = new Code().op(Op.IN, Op.OUT, Op.IN, Op.OUT, Op.RETURN);
            SteadyMachine x = new SteadyMachine();
            others(kinds().method(2, 10, code)).load(x);
            for (int i = 0; i < inputs; i++) {
                DUE.due("input", x.input(40 + i), i + 1);
            }
            x.start(0, 0);
            x.run(5);
            DUE.due(inputs + " inputs: taken", x.count(1), Math.min(2, inputs));
            DUE.due(inputs + " inputs: the first", x.out(0), inputs > 0 ? 40 : 0);
            DUE.due(inputs + " inputs: the second", x.out(1), inputs > 1 ? 41 : 0);
        }
    }

    /** SEND: the method in the slot of the class that the object has; a method has up to eight parameters. */
    private static void sends() {
        int[] due = {100, 101, 101};
        for (int c = 0; c < 3; c++) {
            for (int as = 0; as <= c; as++) {
                outputs("SEND to " + c + " as " + as, new Code().op(Op.NEW, c, Op.SEND, as, 15, Op.OUT), due[c]);
            }
            Code all = new Code().op(Op.NEW, c);
            for (int i = 1; i <= 7; i++) {
                all.number(i * 11);
            }
            outputs("SEND with eight parameters", all.op(Op.SEND, 0, 0, Op.OUT), 77);
        }
    }

    /** A class beside the others has its own slots: class 1 has the same slot with more parameters. */
    private static void sendsBeside() {
        Code code = new Code().op(Op.NEW, 1).number(30).number(4).op(Op.SEND, 1, 7, Op.OUT, Op.NEW, 0, Op.SEND, 0, 7,
            Op.OUT, Op.RETURN);
        SteadyMachine x = started(new Maker().kind(255, Maker.types(), 7, 1).kind(255, Maker.types(), 7, 2)
            .method(0, 3, code).method(0, Maker.types(), Op.INT, 1, 1, new Code().number(5).op(Op.GIVE))
            .method(1, Maker.types(0, 0), Op.INT, 3, 2, new Code().op(Op.LOAD, 1, Op.LOAD, 2, Op.SUB, Op.GIVE)));
        x.run(100);
        DUE.due("its own method", x.out(0), 26);
        DUE.due("the other one's", x.out(1), 5);
        DUE.due("state()", x.state(), 2);
    }

    /** RETURN, GIVE: the frame is left; of the first one the run is over, without frames: RETURNED. */
    private static void givenBack() {
        Code code = new Code().op(Op.NEW, 0, Op.CALL, 2, Op.OUT, Op.RETURN);
        SteadyMachine x = started(others(kinds().method(0, 1, code)));
        DUE.due("up to GIVE", x.run(3), 3);
        DUE.due("frames", x.count(3), 2);
        DUE.due("GIVE", x.run(1), 1);
        DUE.due("one frame", x.count(3), 1);
        DUE.due("it goes on", x.state(), 1);
        DUE.due("its place is the next one", x.frame(0, 1), 4);
        DUE.due("OUT", x.run(1), 1);
        DUE.due("RETURN", x.run(2), 1);
        DUE.due("RETURNED", x.state(), 2);
        DUE.due("without frames", x.count(3), 0);
        DUE.due("frame(0, 0)", x.frame(0, 0), -1);
    }
}
